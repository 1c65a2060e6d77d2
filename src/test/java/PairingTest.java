/** Promises 14 to 17: pairings, and the cover. */
final class PairingTest {
    private static final Due due = new Due("PairingTest");

    public static void main(String[] args) {
        due.runAll(PairingTest.class);
    }

    private static void listed(CrewOffice x, String what, int[]... want) {
        due.equal("pairings(), " + what, x.pairings(), want.length);
        due.equal("look(3), " + what, x.look(3), want.length);
        for (int i = 0; i < want.length && i < x.look(3); i++) {
            for (int k = 0; k < want[i].length; k++) {
                due.equal("pairing(" + i + ", " + k + "), " + what, x.pairing(i, k), want[i][k]);
            }
            int pairing = i;
            due.fails("the flight behind the last of " + i + ", " + what, Due.ELEMENT,
                    () -> x.pairing(pairing, want[pairing].length));
        }
    }

    private static int[] row(int... flights) {
        return flights;
    }

    private static void covered(CrewOffice x, String what, int cost, int... want) {
        due.equal("cover(), " + what, x.cover(), cost);
        due.equal("look(4), " + what, x.look(4), cost < 0 ? -1 : want.length);
        for (int i = 0; i < x.look(3); i++) {
            boolean in = false;
            for (int pairing : want) {
                in |= pairing == i;
            }
            due.equal("covers(" + i + "), " + what, x.covers(i), in);
        }
    }

    /** "in order of their first flights, then second ones .. by number, a chain before those that go on from it" */
    private static void promise14ListsInOrder() {
        CrewOffice x = new CrewOffice();
        x.crew(3, 0, 0, 0, 20000);
        x.flight(7, 0, 1, 400, 450, 0);
        x.flight(2, 1, 0, 500, 550, 1);
        x.flight(9, 1, 0, 480, 550, 2);
        x.flight(4, 0, 2, 600, 650, 0);
        x.flight(0, 2, 0, 700, 750, 0);
        x.flight(1, 2, 1, 700, 750, 0);
        listed(x, "in order", row(4, 0), row(7, 2), row(7, 2, 4, 0), row(7, 9), row(7, 9, 4, 0));
        x.crew(0, 1, 0, 0, 0);
        listed(x, "a base in between, too", row(2, 4, 1), row(4, 0), row(7, 2), row(7, 2, 4, 0), row(7, 9),
                row(7, 9, 4, 0), row(9, 4, 1));
        x.drop(4);
        listed(x, "without a flight that is dropped", row(7, 2), row(7, 9));
    }

    /** "Lists all pairings: how many": none are 0, not -1 */
    private static void promise14ListsNone() {
        CrewOffice x = new CrewOffice();
        listed(x, "no flights, no crews");
        x.crew(0, 0, 0, 7, 0);
        listed(x, "no flights");
        x.flight(0, 0, 1, 100, 200, 0);
        listed(x, "one flight");
        x.flight(1, 1, 2, 300, 400, 0);
        listed(x, "no way home");
        x.flight(1, 1, 0, 300, 400, 0);
        listed(x, "a way home", row(0, 1));
    }

    /** "break none of the rules 1 to 9 for no crew": the base of any crew that is there */
    private static void promise14ListsFromAnyBase() {
        CrewOffice x = Scene.days(1);
        listed(x, "without crews");
        x.crew(2, 4, 0, 7, 0);
        listed(x, "from a base without flights");
        x.crew(3, 0, 0, 7, 0);
        listed(x, "from the base of the last crew", row(0, 1));
        x.flight(2, 1, 0, 480, 600, 0);
        x.flight(3, 0, 1, 660, 780, 0);
        x.crew(2, 1, 0, 7, 0);
        listed(x, "from two bases", row(0, 1), row(2, 3));
    }

    /** "break none of the rules 1 to 9 for no crew": 10 to 12 may be broken for all of them */
    private static void promise14ListsWhatNoCrewMayWork() {
        CrewOffice x = Scene.twoFlights(100, 200, 300, 400);
        x.crew(0, 0, 0, 0, 20000);
        x.off(0, 0, 20160);
        listed(x, "without types, off, and flown 20000", row(0, 1));
    }

    /** What is listed when a rule just holds, and no more when it is just broken. */
    private static void holdsAndBreaks(String what, CrewOffice holds, CrewOffice breaks) {
        listed(holds, what + " holds", row(0, 1));
        listed(breaks, what + " is broken");
    }

    /** "break none of the rules 1 to 9": each of them, right at its bound */
    private static void promise14ListsWithinEachRule() {
        holdsAndBreaks("rule 2", Scene.twoFlights(100, 200, 230, 400), Scene.twoFlights(100, 200, 229, 400));
        holdsAndBreaks("rule 4", Scene.twoFlights(100, 200, 499, 730), Scene.twoFlights(100, 200, 499, 731));
        holdsAndBreaks("rule 5", Scene.twoFlights(1000, 1210, 1900, 2000), Scene.twoFlights(1000, 1200, 1889, 2000));
        holdsAndBreaks("rule 6", Scene.twoFlights(1000, 1170, 1860, 2000), Scene.twoFlights(1000, 1169, 1859, 2000));
        holdsAndBreaks("rule 9", Scene.twoFlights(100, 200, 4000, 4330), Scene.twoFlights(100, 200, 4000, 4331));
        CrewOffice one = Scene.twoFlights(100, 200, 300, 400);
        one.rule(5, 1);
        holdsAndBreaks("rule 3", Scene.twoFlights(100, 200, 300, 400), one);
        CrewOffice two = Scene.twoFlights(1000, 1100, 2000, 2100);
        two.rule(6, 1);
        holdsAndBreaks("rule 7", Scene.twoFlights(1000, 1100, 2000, 2100), two);
    }

    /** "A CHAIN is a row of 1 to 8 flights": nine in a row, of which a pairing has at most eight */
    private static void promise14ListsRowsOfEight() {
        CrewOffice x = new CrewOffice();
        x.crew(0, 0, 0, 7, 0);
        x.rule(5, 8);
        int[] stops = {0, 1, 2, 3, 4, 1, 2, 3, 0, 4};
        for (int k = 0; k + 1 < stops.length; k++) {
            x.flight(k, stops[k], stops[k + 1], 500 + k * 40, 510 + k * 40, 0);
        }
        listed(x, "of eight flights", row(0, 1, 2, 3, 4, 5, 6, 7), row(0, 1, 2, 7), row(0, 1, 6, 7), row(0, 5, 6, 7));
        stops[8] = 4;
        stops[9] = 0;
        for (int k = 7; k <= 8; k++) {
            x.flight(k, stops[k], stops[k + 1], 500 + k * 40, 510 + k * 40, 0);
        }
        listed(x, "not of nine flights", row(0, 1, 2, 3, 8), row(0, 1, 2, 7, 8), row(0, 1, 6, 7, 8), row(0, 5, 6, 7, 8));
    }

    /** Rows are listed though what they go on from is not: a limit of more flights may be higher. */
    private static void promise14GoesOnFromWhatIsTooLong() {
        CrewOffice x = Scene.shuttle(4, 50, 50);
        x.limit(1, 1, 60);
        x.limit(1, 2, 60);
        x.limit(1, 3, 60);
        listed(x, "of four flights alone", row(0, 1, 2, 3));
    }

    /** Two flights from 0 to 1, four from 1 to 2, five from 2 to 0: forty pairings; the first flight lands earlier. */
    private static CrewOffice forty() {
        CrewOffice x = new CrewOffice();
        x.crew(0, 0, 0, 7, 0);
        for (int k = 0; k < 11; k++) {
            int leg = k < 2 ? 0 : k < 6 ? 1 : 2;
            x.flight(k, leg, (leg + 1) % 3, 400 + 90 * leg, 460 + 90 * leg, 0);
        }
        x.flight(0, 0, 1, 400, 450, 0);
        return x;
    }

    /** "40 at most": all of forty can be asked for */
    private static void promise14ListsForty() {
        CrewOffice x = forty();
        due.equal("pairings()", x.pairings(), 40);
        due.equal("look(3)", x.look(3), 40);
        for (int i = 0; i < 40; i++) {
            due.equal("pairing(" + i + ", 0)", x.pairing(i, 0), i / 20);
            due.equal("pairing(" + i + ", 1)", x.pairing(i, 1), 2 + i / 5 % 4);
            due.equal("pairing(" + i + ", 2)", x.pairing(i, 2), 6 + i % 5);
        }
        covered(x, "five pairings, four fees", 5 * 330 + 4 * 200, 0, 1, 7, 13, 39);
    }

    /** "-1, and none is listed, when there are more than 40" */
    private static void promise14ListsNoneOfFortyOne() {
        CrewOffice x = forty();
        x.flight(11, 1, 0, 480, 500, 0);
        due.equal("pairings() of 41", x.pairings(), -1);
        due.equal("look(3)", x.look(3), -1);
        due.fails("pairing(0, 0)", Due.ELEMENT, () -> x.pairing(0, 0));
        due.fails("covers(0)", Due.ELEMENT, () -> x.covers(0));
        due.fails("owner(0)", Due.ELEMENT, () -> x.owner(0));
        due.equal("cover()", x.cover(), -1);
        due.equal("look(4)", x.look(4), -1);
        due.fails("award()", Due.STATE, x::award);
        x.move(11, -1);
        due.equal("pairings() of 40 again", x.pairings(), 40);
        CrewOffice many = Scene.shuttle(12 - 4, 30, 30);
        for (int k = 8; k < 12; k++) {
            many.flight(k, k % 2, 1 - k % 2, 480 + k * 60, 510 + k * 60, 0);
        }
        many.rule(5, 8);
        due.equal("pairings() of far more", many.pairings(), -1);
        due.equal("pairings() of far more again", many.pairings(), -1);
    }

    /** "(No cover and no awards are left.)": though the same are listed */
    private static void promise14LeavesNoCoverAndNoAwards() {
        CrewOffice x = Scene.awarded();
        due.equal("look(5)", x.look(5), 1);
        due.equal("pairings() again", x.pairings(), 1);
        due.equal("look(3)", x.look(3), 1);
        due.equal("look(4)", x.look(4), -1);
        due.equal("look(5)", x.look(5), 0);
        due.equal("covers(0)", x.covers(0), false);
        due.equal("owner(0)", x.owner(0), -1);
        due.fails("award()", Due.STATE, x::award);
    }

    /** "Flight k of pairing i that is listed. Throws .. when there is none": such a pairing */
    private static void promise15RefusesAPairing() {
        CrewOffice x = Scene.star(1, 3);
        x.pairings();
        for (int i : Scene.outside(0, 2)) {
            due.fails("pairing(" + i + ", 0)", Due.ELEMENT, () -> x.pairing(i, 0));
        }
        due.fails("pairing(40, 0)", Due.ELEMENT, () -> x.pairing(40, 0));
        due.equal("pairing(0, 1)", x.pairing(0, 1), 1);
        due.equal("pairing(2, 1)", x.pairing(2, 1), 3);
    }

    /** "Throws .. when there is none": such a flight in it, also where a longer one was listed before */
    private static void promise15RefusesAFlight() {
        CrewOffice x = Scene.shuttle(8, 20, 30);
        x.rule(5, 8);
        x.rule(2, 30);
        for (int k = 0; k < 8; k++) {
            int[] stops = {0, 1, 2, 3, 4, 1, 2, 3, 0};
            x.flight(k, stops[k], stops[k + 1], 500 + k * 40, 510 + k * 40, 0);
        }
        x.pairings();
        due.equal("pairing(0, 7)", x.pairing(0, 7), 7);
        due.equal("pairing(1, 3)", x.pairing(1, 3), 7);
        for (int k : Scene.outside(0, 7)) {
            due.fails("pairing(0, " + k + ")", Due.ELEMENT, () -> x.pairing(0, k));
        }
        for (int k : Scene.outside(0, 3)) {
            due.fails("pairing(1, " + k + ")", Due.ELEMENT, () -> x.pairing(1, k));
        }
        x.drop(4);
        x.pairings();
        due.equal("pairing(0, 3), now a short one", x.pairing(0, 3), 7);
        due.fails("pairing(0, 4), now a short one", Due.ELEMENT, () -> x.pairing(0, 4));
    }

    /** "that is listed": none is before, nor behind a call that sets something */
    private static void promise15RefusesWhatIsNotListed() {
        CrewOffice x = Scene.twoFlights(100, 200, 300, 400);
        due.fails("pairing(0, 0), not listed", Due.ELEMENT, () -> x.pairing(0, 0));
        x.pairings();
        due.equal("pairing(0, 0)", x.pairing(0, 0), 0);
        x.rule(8, 200);
        due.fails("pairing(0, 0), listed no more", Due.ELEMENT, () -> x.pairing(0, 0));
    }

    /** "Takes the cover of the listed pairings: its cost": "the minutes from beginning to end" */
    private static void promise16CostsMinutes() {
        CrewOffice x = Scene.shuttle(4, 120, 60);
        x.flight(2, 0, 2, 1500, 1600, 0);
        x.flight(3, 2, 0, 1700, 1800, 0);
        x.rule(9, 0);
        listed(x, "two days", row(0, 1), row(0, 1, 2, 3), row(2, 3));
        covered(x, "two days apart", 390 + 390, 0, 2);
        x.rule(0, 120);
        x.rule(1, 0);
        x.pairings();
        covered(x, "REPORT 120, RELEASE 0", 420 + 420, 0, 2);
        x.flight(2, 0, 2, 800, 900, 0);
        x.flight(3, 2, 0, 1000, 1100, 0);
        x.rule(2, 20);
        x.limit(1, 4, 740);
        listed(x, "one day", row(0, 1), row(0, 1, 2, 3), row(2, 3));
        covered(x, "all in one", 740, 1);
        x.limit(1, 4, 739);
        x.pairings();
        covered(x, "too long for one duty", 420 + 420, 0, 1);
    }

    /** "for each flight FEE for each pairing but one that it is in": three ways back for one way out */
    private static void promise16CostsFees() {
        CrewOffice x = Scene.star(1, 3);
        x.pairings();
        int minutes = 3 * (90 + 150) + 1 + 2;
        covered(x, "two fees of 200", minutes + 400, 0, 1, 2);
        x.rule(8, 0);
        x.pairings();
        covered(x, "no fees", minutes, 0, 1, 2);
        x.rule(8, 10000);
        x.pairings();
        covered(x, "two fees of 10000", minutes + 20000, 0, 1, 2);
    }

    /** "for each flight FEE": two flights are in both pairings */
    private static void promise16CostsFeesOfEachFlight() {
        CrewOffice x = new CrewOffice();
        x.crew(0, 0, 0, 7, 0);
        x.flight(0, 0, 1, 400, 450, 0);
        x.flight(1, 1, 2, 500, 550, 0);
        x.flight(2, 2, 0, 600, 650, 0);
        x.flight(3, 2, 0, 600, 655, 0);
        listed(x, "two ways home", row(0, 1, 2), row(0, 1, 3));
        covered(x, "two fees", 340 + 345 + 400, 0, 1);
    }

    /** As many pairings as can be: one way out, eleven ways back, and ten fees. */
    private static void promise16TakesElevenPairings() {
        CrewOffice x = Scene.star(1, 11);
        x.rule(8, 10000);
        x.pairings();
        covered(x, "eleven ways back", 11 * 240 + 55 + 10 * 10000, 0, 1, 2, 3, 4, 5, 6, 7, 8, 9, 10);
    }

    /** Forty pairings, and the last one is not in the cover: only flight 2 arrives early enough for flight 3. */
    private static void promise16LeavesTheLastOfForty() {
        CrewOffice x = new CrewOffice();
        x.crew(0, 0, 0, 7, 0);
        int[] arrives = {460, 450, 440};
        for (int k = 0; k < 3; k++) {
            x.flight(k, 0, 1, 400, arrives[k], 0);
        }
        int[] departs = {470, 480, 480, 490};
        for (int k = 0; k < 4; k++) {
            x.flight(3 + k, 1, 2, departs[k], 560, 0);
        }
        for (int k = 7; k < 12; k++) {
            x.flight(k, 2, 0, 600, 660, 0);
        }
        due.equal("pairings()", x.pairings(), 40);
        due.equal("pairing(39, 0)", x.pairing(39, 0), 2);
        due.equal("pairing(39, 1)", x.pairing(39, 1), 6);
        due.equal("pairing(39, 2)", x.pairing(39, 2), 11);
        covered(x, "five pairings, three fees", 5 * 350 + 3 * 200, 0, 1, 7, 13, 24);
    }

    /** "has the least cost": more minutes, or fees, whichever is less */
    private static void promise16HasTheLeastCost() {
        CrewOffice x = new CrewOffice();
        x.crew(0, 0, 0, 7, 0);
        x.rule(9, 0);
        x.flight(0, 0, 1, 500, 550, 0);
        x.flight(1, 0, 1, 500, 550, 0);
        x.flight(2, 1, 0, 600, 650, 0);
        x.flight(3, 0, 1, 3500, 3550, 0);
        x.flight(4, 1, 0, 3600, 3650, 0);
        x.flight(5, 1, 0, 3600, 3650, 0);
        listed(x, "two days", row(0, 2), row(0, 2, 3, 4), row(0, 2, 3, 5), row(0, 4), row(0, 5), row(1, 2),
                row(1, 2, 3, 4), row(1, 2, 3, 5), row(1, 4), row(1, 5), row(3, 4), row(3, 5));
        covered(x, "two fees of 200", 4 * 240 + 400, 0, 5, 10, 11);
        x.rule(8, 10000);
        x.pairings();
        covered(x, "no fee of 10000, the first of four such covers", 240 + 3240 + 240, 0, 8, 11);
        x.rule(8, 1380);
        x.pairings();
        covered(x, "two fees of 1380 are as dear as 3240 minutes and 240 less", 4 * 240 + 2 * 1380, 0, 5, 10, 11);
        x.rule(8, 1381);
        x.pairings();
        covered(x, "two fees of 1381 are dearer", 240 + 3240 + 240, 0, 8, 11);
    }

    /** "of several the one with the least pairing by which two of them differ" */
    private static void promise16TakesTheLeastOfEqualCovers() {
        CrewOffice x = new CrewOffice();
        x.crew(0, 0, 0, 7, 0);
        for (int k = 0; k < 3; k++) {
            x.flight(k, 0, 1, 400, 450, 0);
            x.flight(3 + k, 1, 0, 500, 550, 0);
        }
        due.equal("pairings()", x.pairings(), 9);
        covered(x, "of equal covers the one with pairing 0, then 4", 3 * 240, 0, 4, 8);
        x.flight(6, 1, 0, 500, 550, 0);
        due.equal("pairings()", x.pairings(), 12);
        covered(x, "four ways back for three ways out: 0 and 1, then 6 and 11", 4 * 240 + 200, 0, 1, 6, 11);
    }

    /** Four flights with these numbers, out, back, out and back, each second one begun where and when the first ends. */
    private static CrewOffice backToBack(int... numbers) {
        CrewOffice x = new CrewOffice();
        x.crew(0, 0, 0, 7, 0);
        x.rule(0, 0);
        x.rule(1, 0);
        x.rule(2, 0);
        x.flight(numbers[0], 0, 1, 400, 450, 0);
        x.flight(numbers[1], 1, 0, 500, 550, 0);
        x.flight(numbers[2], 0, 1, 550, 600, 0);
        x.flight(numbers[3], 1, 0, 650, 700, 0);
        return x;
    }

    /** "the least pairing by which two of them differ": two short ones are as long as the long one */
    private static void promise16TakesTheLeastOfUnequalSizes() {
        CrewOffice x = backToBack(0, 1, 2, 3);
        listed(x, "the long one is 1", row(0, 1), row(0, 1, 2, 3), row(0, 3), row(2, 3));
        covered(x, "0 and 3 before 1", 150 + 150, 0, 3);
        CrewOffice turned = backToBack(0, 3, 2, 1);
        listed(turned, "the long one is 2", row(0, 1), row(0, 3), row(0, 3, 2, 1), row(2, 1));
        covered(turned, "1 and 3 before 2", 150 + 150, 1, 3);
        CrewOffice late = backToBack(2, 3, 0, 1);
        listed(late, "the long one is 3", row(0, 1), row(2, 1), row(2, 3), row(2, 3, 0, 1));
        covered(late, "0 and 2 before 3", 150 + 150, 0, 2);
    }

    /** "(0 without a flight)" */
    private static void promise16CostsNothingWithoutAFlight() {
        CrewOffice x = new CrewOffice();
        x.pairings();
        covered(x, "no flights, no crews", 0);
        x.crew(0, 0, 0, 7, 0);
        x.flight(0, 0, 1, 100, 200, 0);
        x.drop(0);
        x.pairings();
        covered(x, "all flights are dropped", 0);
    }

    /** "-1 when there is none": a flight is in no pairing */
    private static void promise16IsNoneForAFlightInNoPairing() {
        CrewOffice x = Scene.star(1, 1);
        x.flight(5, 3, 4, 100, 200, 0);
        due.equal("pairings()", x.pairings(), 1);
        covered(x, "a flight in no pairing", -1);
        due.equal("look(3)", x.look(3), 1);
        due.fails("award()", Due.STATE, x::award);
        due.equal("owner(0)", x.owner(0), -1);
        CrewOffice none = new CrewOffice();
        none.flight(0, 0, 1, 100, 200, 0);
        due.equal("pairings()", none.pairings(), 0);
        covered(none, "no pairings", -1);
    }

    /** "or they were not listed": before, behind a call that sets something, and when there are more than 40 */
    private static void promise16IsNoneWhenTheyWereNotListed() {
        CrewOffice x = Scene.star(1, 1);
        due.equal("cover(), not listed", x.cover(), -1);
        due.equal("look(4)", x.look(4), -1);
        due.equal("look(3)", x.look(3), -1);
        x.pairings();
        due.equal("cover()", x.cover(), 240);
        x.limit(0, 1, 720);
        due.equal("cover(), listed no more", x.cover(), -1);
        due.equal("look(4)", x.look(4), -1);
        due.equal("cover() of a new object", new CrewOffice().cover(), -1);
    }

    /** "(No awards are left.)": though the same cover is taken */
    private static void promise16LeavesNoAwards() {
        CrewOffice x = Scene.awarded();
        due.equal("owner(0)", x.owner(0), 0);
        covered(x, "again", 390, 0);
        due.equal("owner(0), no awards are left", x.owner(0), -1);
        due.equal("look(5), no awards are left", x.look(5), 0);
        due.equal("look(3)", x.look(3), 1);
        due.equal("award()", x.award(), true);
    }

    /** "(false without one)" */
    private static void promise17IsFalseWithoutACover() {
        CrewOffice x = Scene.star(1, 2);
        x.pairings();
        due.equal("covers(0) before cover()", x.covers(0), false);
        due.equal("covers(1) before cover()", x.covers(1), false);
        x.cover();
        due.equal("covers(0)", x.covers(0), true);
        due.equal("covers(1)", x.covers(1), true);
        x.flight(5, 3, 4, 100, 200, 0);
        x.pairings();
        x.cover();
        due.equal("covers(0), there is no cover", x.covers(0), false);
        due.equal("covers(1), there is no cover", x.covers(1), false);
    }

    /** "Throws .. when there is no such pairing listed." */
    private static void promise17RefusesAPairing() {
        CrewOffice x = Scene.star(1, 3);
        due.fails("covers(0), not listed", Due.ELEMENT, () -> x.covers(0));
        x.pairings();
        for (int i : Scene.outside(0, 2)) {
            due.fails("covers(" + i + ") before cover()", Due.ELEMENT, () -> x.covers(i));
        }
        x.cover();
        for (int i : Scene.outside(0, 2)) {
            due.fails("covers(" + i + ")", Due.ELEMENT, () -> x.covers(i));
        }
        x.drop(3);
        due.fails("covers(0), listed no more", Due.ELEMENT, () -> x.covers(0));
    }
}
