/** Promises 10 to 13: the chain, the least rule that it breaks, and what it comes to. */
final class ChainTest {
    private static final Due due = new Due("ChainTest");

    public static void main(String[] args) {
        due.runAll(ChainTest.class);
    }

    private static void both(CrewOffice x, String what, int want) {
        due.equal("check(0), " + what, x.check(0), want);
        due.equal("check(-1), " + what, x.check(-1), want);
    }

    private static void spans(CrewOffice x, String what, int... want) {
        for (int k = 0; k < want.length; k++) {
            due.equal("span(" + k + "), " + what, x.span(k), want[k]);
        }
    }

    /** "The chain is empty: how many flights it had.": 0 to 8 of them */
    private static void promise10TellsHowManyItHad() {
        CrewOffice x = new CrewOffice();
        for (int size = 0; size <= 8; size++) {
            for (int k = 0; k < size; k++) {
                x.chain(k);
            }
            due.equal("clear() of " + size, x.clear(), size);
            due.equal("look(2)", x.look(2), 0);
            due.equal("clear() of nothing", x.clear(), 0);
        }
    }

    /** Behind a clear nothing is left of the flights before. */
    private static void promise10LeavesNothing() {
        CrewOffice x = Scene.twoFlights(100, 200, 300, 400);
        x.flight(2, 0, 2, 1000, 1100, 1);
        x.clear();
        due.fails("check(-1)", Due.ELEMENT, () -> x.check(-1));
        due.fails("span(0)", Due.ELEMENT, () -> x.span(0));
        due.equal("chain(2)", x.chain(2), 1);
        spans(x, "the new flight alone", 940, 1130, 1, 100, 190);
        due.equal("check(0)", x.check(0), 8);
    }

    /** "A flight more behind the chain: how many it has."; it need not be there, and may be in it twice */
    private static void promise11TellsHowManyItHas() {
        CrewOffice x = new CrewOffice();
        for (int k = 1; k <= 8; k++) {
            due.equal("chain", x.chain(k % 2 == 0 ? 11 : 0), k);
            due.equal("look(2)", x.look(2), k);
        }
    }

    /** "behind the chain": in this order */
    private static void promise11GoesBehindTheChain() {
        CrewOffice x = Scene.twoFlights(100, 200, 300, 400);
        Scene.chain(x, 0, 1);
        due.equal("check(0), out and back", x.check(0), 0);
        Scene.chain(x, 1, 0);
        due.equal("check(0), back and out", x.check(0), 1);
        due.equal("span(0) is that of the first one", x.span(0), 240);
        due.equal("span(1) is that of the last one", x.span(1), 230);
    }

    /** The chain has flights by their numbers: what they are when it is asked for counts. */
    private static void promise11KeepsTheNumbers() {
        CrewOffice x = Scene.twoFlights(100, 200, 300, 400);
        x.drop(1);
        due.equal("look(2), a flight is dropped", x.look(2), 2);
        due.fails("span(0), a flight is dropped", Due.ELEMENT, () -> x.span(0));
        x.flight(1, 1, 0, 300, 500, 0);
        due.equal("span(1), it is there again", x.span(1), 530);
    }

    /** "Throws IllegalArgumentException when it is not 0 .. 11" */
    private static void promise11RefusesAFlight() {
        CrewOffice x = new CrewOffice();
        for (int flight : Scene.outside(0, 11)) {
            due.fails("chain(" + flight + ")", Due.ARGUMENT, () -> x.chain(flight));
        }
        due.equal("look(2)", x.look(2), 0);
        due.equal("chain(0)", x.chain(0), 1);
        due.equal("chain(11)", x.chain(11), 2);
    }

    /** "IllegalStateException when there are 8": seven are not too many, and a wrong flight is told first */
    private static void promise11RefusesANinth() {
        CrewOffice x = Scene.shuttle(8, 20, 30);
        int end = x.span(1);
        for (int k = 0; k < 12; k++) {
            int flight = k;
            due.fails("a ninth one, " + flight, Due.STATE, () -> x.chain(flight));
        }
        for (int flight : Scene.outside(0, 11)) {
            due.fails("a ninth one, " + flight, Due.ARGUMENT, () -> x.chain(flight));
        }
        due.equal("look(2)", x.look(2), 8);
        due.equal("span(1) as before", x.span(1), end);
        due.equal("clear()", x.clear(), 8);
        due.equal("chain(3), empty again", x.chain(3), 1);
    }

    /** "The least rule that the chain breaks": all are broken at once, and mended one after the other; "0 if none" */
    private static void promise12TellsTheLeastRule() {
        CrewOffice x = new CrewOffice();
        x.crew(0, 1, 0, 0, 20000);
        x.crew(1, 0, 0, 7, 0);
        x.off(0, 0, 20160);
        x.flight(0, 0, 1, 600, 700, 0);
        x.flight(1, 2, 1, 720, 800, 0);
        x.flight(2, 1, 2, 1400, 1500, 0);
        Scene.chain(x, 0, 1, 2);
        x.rule(5, 1);
        x.rule(6, 1);
        x.rule(7, 60);
        x.limit(1, 2, 60);
        due.equal("rule 1", x.check(0), 1);
        x.crew(0, 0, 0, 0, 20000);
        x.off(0, 0, 20160);
        due.equal("rule 2, the station", x.check(0), 2);
        x.flight(1, 1, 0, 720, 800, 0);
        x.flight(2, 0, 1, 1400, 1500, 0);
        due.equal("rule 2, the turn", x.check(0), 2);
        x.move(1, 10);
        due.equal("rule 3", x.check(0), 3);
        x.rule(5, 2);
        due.equal("rule 4", x.check(0), 4);
        x.limit(1, 2, 720);
        due.equal("rule 5", x.check(0), 5);
        x.rule(4, 0);
        due.equal("rule 6", x.check(0), 6);
        x.rule(9, 0);
        due.equal("rule 7", x.check(0), 7);
        x.rule(6, 2);
        due.equal("rule 8", x.check(0), 8);
        x.flight(3, 1, 0, 1600, 1700, 0);
        x.chain(3);
        due.equal("rule 9", x.check(0), 9);
        x.rule(7, 2000);
        due.equal("rule 10", x.check(0), 10);
        x.crew(0, 0, 0, 1, 20000);
        x.off(0, 0, 20160);
        due.equal("rule 11", x.check(0), 11);
        x.off(0, 0, 0);
        due.equal("rule 12", x.check(0), 12);
        x.crew(0, 0, 0, 1, 0);
        due.equal("no rule", x.check(0), 0);
    }

    /** "or (-1) for none": the rules 10 to 12 are those of a crew */
    private static void promise12ForNoCrewHasNineRules() {
        CrewOffice x = Scene.twoFlights(100, 200, 300, 400);
        x.crew(0, 0, 0, 0, 20000);
        x.off(0, 0, 20160);
        due.equal("check(0)", x.check(0), 10);
        due.equal("check(-1)", x.check(-1), 0);
    }

    /** "Throws IllegalArgumentException when crew is not -1 .. 3" */
    private static void promise12RefusesACrew() {
        CrewOffice x = Scene.twoFlights(100, 200, 300, 400);
        for (int crew : Scene.outside(-1, 3)) {
            due.fails("check(" + crew + ")", Due.ARGUMENT, () -> x.check(crew));
        }
        x.crew(3, 0, 0, 7, 0);
        due.equal("check(-1)", x.check(-1), 0);
        due.equal("check(3)", x.check(3), 0);
    }

    /** "NoSuchElementException when it is not there" */
    private static void promise12RefusesACrewThatIsNotThere() {
        CrewOffice x = Scene.twoFlights(100, 200, 300, 400);
        for (int k = 1; k < 4; k++) {
            int crew = k;
            due.fails("check(" + crew + ")", Due.ELEMENT, () -> x.check(crew));
        }
    }

    /** "or a flight of the chain is not": the first, one between, or the last */
    private static void promise12RefusesAFlightThatIsNotThere() {
        for (int k = 0; k < 3; k++) {
            int gone = k;
            CrewOffice x = Scene.shuttle(3, 30, 30);
            x.drop(gone);
            due.fails("check(-1) without flight " + gone, Due.ELEMENT, () -> x.check(-1));
            due.fails("check(0) without flight " + gone, Due.ELEMENT, () -> x.check(0));
            due.fails("check(4) without flight " + gone, Due.ARGUMENT, () -> x.check(4));
        }
        CrewOffice never = Scene.shuttle(2, 30, 30);
        never.chain(9);
        due.fails("check(-1), a flight that never was", Due.ELEMENT, () -> never.check(-1));
    }

    /** "or that is empty"; a wrong crew is told first */
    private static void promise12RefusesAnEmptyChain() {
        CrewOffice x = Scene.twoFlights(100, 200, 300, 400);
        x.clear();
        due.fails("check(-1)", Due.ELEMENT, () -> x.check(-1));
        due.fails("check(0)", Due.ELEMENT, () -> x.check(0));
        due.fails("check(1)", Due.ELEMENT, () -> x.check(1));
        due.fails("check(4)", Due.ARGUMENT, () -> x.check(4));
        due.fails("check(-2)", Due.ARGUMENT, () -> x.check(-2));
    }

    /** "1, if the first flight does not depart from the crew's base (for no crew: from that of any crew)" */
    private static void promise12Rule1() {
        CrewOffice x = Scene.twoFlights(100, 200, 300, 400);
        both(x, "from the base", 0);
        x.crew(1, 1, 0, 0, 0);
        due.equal("check(1), another base", x.check(1), 1);
        Scene.chain(x, 1);
        due.equal("check(0), from the base of crew 1", x.check(0), 1);
        due.equal("check(-1), from the base of crew 1", x.check(-1), 8);
        x.crew(1, 4, 0, 0, 0);
        due.equal("check(-1), from nobody's base", x.check(-1), 1);
        x.crew(3, 1, 0, 0, 0);
        due.equal("check(-1), from the base of crew 3", x.check(-1), 8);
    }

    /** "2, if a flight departs from another station than the one at which the one before arrives" */
    private static void promise12Rule2Stations() {
        CrewOffice x = Scene.twoFlights(100, 200, 300, 400);
        x.flight(1, 2, 0, 300, 400, 0);
        both(x, "from another station", 2);
        x.flight(1, 0, 2, 300, 400, 0);
        both(x, "from the station of the first one", 2);
        CrewOffice third = Scene.shuttle(4, 30, 30);
        both(third, "all from where they are", 0);
        third.flight(3, 2, 0, 660, 690, 0);
        both(third, "the last one from another station", 2);
    }

    /** "2 .. or before TURN minutes behind that": TURN is 30 at first */
    private static void promise12Rule2Turn() {
        CrewOffice x = Scene.twoFlights(100, 200, 230, 300);
        both(x, "a turn of 30", 0);
        x.move(1, -1);
        both(x, "a turn of 29", 2);
        x.flight(1, 1, 0, 150, 180, 0);
        both(x, "before the other one arrives", 2);
        x.flight(1, 1, 0, 10, 20, 0);
        both(x, "before the other one departs", 2);
        Scene.chain(x, 0, 0);
        both(x, "the same flight twice", 2);
    }

    /** "3, if a duty has more than LEGS flights": in each duty, not in the chain */
    private static void promise12Rule3() {
        CrewOffice x = Scene.shuttle(4, 30, 30);
        both(x, "4 flights", 0);
        x.rule(5, 3);
        both(x, "4 flights, LEGS 3", 3);
        x.rule(4, 0);
        x.rule(9, 0);
        x.move(3, 600);
        both(x, "3 and 1 flights, LEGS 3", 0);
        x.rule(5, 2);
        both(x, "3 and 1 flights, LEGS 2", 3);
        x.move(2, 600);
        both(x, "2 and 2 flights, LEGS 2", 0);
        x.move(1, 600);
        both(x, "1 and 3 flights, LEGS 2", 3);
        x.rule(5, 3);
        both(x, "1 and 3 flights, LEGS 3", 0);
    }

    /** "4, if one is longer than the limit of its band and flights": any of them, the last one, too */
    private static void promise12Rule4() {
        CrewOffice x = Scene.twoFlights(100, 200, 499, 730);
        both(x, "a duty of 720", 0);
        x.flight(1, 1, 0, 499, 731, 0);
        both(x, "a duty of 721", 4);
        x.limit(0, 2, 721);
        both(x, "a duty of 721, limit 721", 0);
        CrewOffice second = Scene.twoFlights(100, 200, 1860, 2000);
        both(second, "two duties", 0);
        second.limit(1, 1, 229);
        both(second, "the second duty is too long", 4);
        second.limit(1, 1, 230);
        both(second, "the second duty is not too long", 0);
        second.limit(0, 1, 189);
        both(second, "the first duty is too long", 4);
    }

    /** "(more than 4 count as 4)" */
    private static void promise12Rule4MoreThanFourLegs() {
        for (int flights = 5; flights <= 8; flights++) {
            CrewOffice x = Scene.shuttle(flights, 20, 30);
            x.rule(5, 8);
            int otherwise = flights % 2 == 0 ? 0 : 8;
            x.limit(1, 3, 60);
            x.limit(1, 4, x.span(4));
            both(x, flights + " flights by the limit of 4", otherwise);
            x.limit(1, 4, x.span(4) - 1);
            both(x, flights + " flights by a limit of a minute less", 4);
        }
    }

    /** "its BAND: the local time of its beginning .. divided by 360": at 359 and 360 of each of them */
    private static void promise12Rule4BandsBegin() {
        for (int band = 1; band < 4; band++) {
            CrewOffice x = Scene.twoFlights(59 + band * 360, 100 + band * 360, 200 + band * 360, 300 + band * 360);
            x.limit(band, 2, 60);
            both(x, "a minute before band " + band, 0);
            x.move(0, 1);
            both(x, "in band " + band, 4);
        }
        CrewOffice next = Scene.twoFlights(1499, 1600, 1700, 1800);
        next.limit(0, 2, 60);
        both(next, "at 1439", 0);
        next.move(0, 1);
        both(next, "at 1440, in band 0 of the next day", 4);
    }

    /** "at the station from which its first flight departs", by the offset in force at the beginning */
    private static void promise12Rule4BandsAreLocal() {
        CrewOffice x = Scene.twoFlights(420, 500, 600, 700);
        x.limit(1, 2, 60);
        both(x, "begins at 360", 4);
        x.zone(1, -1, 20160, 0);
        both(x, "begins at 360, another station's offset", 4);
        x.zone(0, -1, 20160, 0);
        both(x, "begins at 359 of the clock", 0);
        x.zone(0, 0, 360, -1);
        both(x, "begins at the change to 359", 0);
        x.zone(0, 0, 361, -1);
        both(x, "begins a minute before the change", 4);
        CrewOffice second = Scene.twoFlights(100, 200, 1860, 2000);
        second.limit(1, 1, 60);
        both(second, "the second duty begins at 1800", 4);
        second.zone(0, -1, 20160, 0);
        both(second, "the second duty begins at another station", 4);
        second.zone(1, -1, 20160, 0);
        due.equal("check(0), the second duty begins at 359", second.check(0), 6);
    }

    /** "modulo 1440 (0 or more)": a beginning before 0, and a local time below 0 */
    private static void promise12Rule4BandsBelow0() {
        CrewOffice x = Scene.twoFlights(0, 50, 100, 150);
        x.limit(3, 2, 60);
        both(x, "begins at -60, in band 3", 4);
        x.limit(3, 2, 720);
        x.limit(0, 2, 60);
        both(x, "begins at -60, not in band 0", 0);
        x.zone(0, 60, 0, -720);
        both(x, "begins at -60, before a change at 0, at 0 of the clock", 4);
        x.limit(0, 2, 720);
        x.limit(2, 2, 60);
        x.zone(0, -660, 20160, 0);
        both(x, "begins at 720 of the day before", 4);
        x.zone(0, -661, 20160, 0);
        both(x, "begins at 719 of the day before", 0);
    }

    /** "5, if a duty begins before REST .. has gone by since that one's end": REST is 600 at first */
    private static void promise12Rule5Rest() {
        CrewOffice x = Scene.twoFlights(100, 200, 890, 950);
        x.rule(9, 0);
        both(x, "a rest of 600", 0);
        x.move(1, -1);
        both(x, "a rest of 599", 5);
        CrewOffice third = Scene.shuttle(3, 100, 690);
        third.rule(9, 0);
        both(third, "two rests of 600", 8);
        third.move(2, -1);
        both(third, "the second one of 599", 5);
    }

    /** "5 .. or the length of the duty before it, whichever is more" */
    private static void promise12Rule5Length() {
        CrewOffice x = Scene.twoFlights(100, 700, 1480, 1600);
        x.rule(9, 0);
        both(x, "a rest of 690 behind a duty of 690", 0);
        x.move(1, -1);
        both(x, "a rest of 689 behind a duty of 690", 5);
        CrewOffice next = Scene.twoFlightsAnyRest(100, 200, 590, 1000);
        both(next, "a rest of 300 between duties of 190 and 500", 0);
        next.rule(0, 120);
        next.rule(1, 120);
        next.move(1, -40);
        both(next, "a rest of 110 behind a duty of 340", 5);
    }

    /** "6, if .. between two duties there are no 480 minutes in a row, all of them night": from 1320 to before 1800 */
    private static void promise12Rule6() {
        CrewOffice x = Scene.twoFlights(1000, 1290, 1860, 2000);
        due.equal("check(0), a rest of 480, and REST is 600", x.check(0), 5);
        x.rule(4, 0);
        both(x, "from 1320 to 1800", 0);
        x.move(1, -1);
        both(x, "from 1320 to 1799", 6);
        x.move(1, 1);
        x.flight(0, 0, 1, 1000, 1291, 0);
        both(x, "from 1321 to 1800", 6);
        x.move(1, 1);
        both(x, "from 1321 to 1801: minute 1800 is no night", 6);
        x.flight(0, 0, 1, 1000, 1289, 0);
        x.flight(1, 1, 0, 1859, 2000, 0);
        both(x, "from 1319 to 1799: minute 1319 is no night", 6);
    }

    /** "in a row": two nights that are too short do not count as one, and the second one may be the long one */
    private static void promise12Rule6InARow() {
        CrewOffice x = Scene.twoFlights(1000, 1291, 3299, 3400);
        x.rule(4, 0);
        both(x, "from 1321 to 3239: 479 and 479", 6);
        x.move(1, 1);
        both(x, "from 1321 to 3240: 479 and 480", 0);
        x.flight(0, 0, 1, 1000, 1290, 0);
        x.move(1, -1);
        both(x, "from 1320 to 3239: 480 and 479", 0);
    }

    /** "between two duties": each two of them */
    private static void promise12Rule6EachRest() {
        CrewOffice x = Scene.shuttle(4, 100, 1340);
        x.rule(6, 4);
        x.rule(7, 20160);
        both(x, "three nights", 0);
        x.move(3, -490);
        both(x, "the last rest has no night", 6);
        x.move(3, 490);
        x.move(1, -490);
        both(x, "the first rest has no night", 6);
    }

    /** "night at the station": by its clock, not by that of another one */
    private static void promise12Rule6AtTheStation() {
        CrewOffice x = Scene.twoFlights(1000, 1290, 1860, 2000);
        x.rule(4, 0);
        x.zone(0, 1, 20160, 0);
        both(x, "the clock of another station", 0);
        x.zone(1, -1, 20160, 0);
        both(x, "a night that ends a minute later", 6);
        x.zone(1, 1, 20160, 0);
        both(x, "a night that begins a minute earlier", 6);
        x.zone(1, 720, 20160, -720);
        both(x, "day and night turned round", 6);
    }

    /** "its local, modulo 1440 (0 or more)": below 0 before 720 by an offset of -720; night is from 600 to 1080 */
    private static void promise12Rule6Below0() {
        CrewOffice x = Scene.twoFlights(10, 100, 669, 700);
        x.rule(4, 0);
        x.zone(1, -720, 20160, 0);
        both(x, "from 130 to 609: all but 9 minutes are day", 6);
        x.flight(1, 1, 0, 1140, 1200, 0);
        both(x, "from 130 to 1080", 0);
        x.move(1, -1);
        both(x, "from 130 to 1079", 6);
        x.flight(0, 0, 1, 400, 570, 0);
        x.move(1, 1);
        both(x, "from 600 to 1080", 0);
        x.flight(0, 0, 1, 400, 571, 0);
        both(x, "from 601 to 1080", 6);
    }

    /** A change of the clock makes a night longer or shorter, or joins two of them. */
    private static void promise12Rule6WithAChange() {
        CrewOffice x = Scene.twoFlights(1000, 1290, 1860, 2000);
        x.rule(4, 0);
        x.zone(1, 0, 1500, 1);
        both(x, "a night that is a minute shorter", 6);
        x.zone(1, 0, 1500, -1);
        both(x, "a night that is a minute longer", 0);
        x.flight(0, 0, 1, 1000, 1291, 0);
        both(x, "a night that is a minute longer, from its second minute", 6);
        x.move(1, 1);
        both(x, "a night that is a minute longer, to its last minute", 0);
        x.zone(1, 0, 1799, 720);
        both(x, "a night that ends by the change", 6);
        x.zone(1, 720, 1600, 0);
        both(x, "200 minutes of night", 6);
        x.flight(0, 0, 1, 1000, 1040, 0);
        x.flight(1, 1, 0, 1960, 2000, 0);
        x.zone(1, 400, 1400, -80);
        both(x, "from 920 to 1400 by the first, from 1400 to 1880 by the second: from 1070 on 810", 0);
        x.zone(1, 400, 1400, 520);
        both(x, "from 1070 to 1400", 6);
    }

    /** "6, if NIGHTS is 1" */
    private static void promise12Rule6WithoutNights() {
        CrewOffice x = Scene.twoFlights(100, 200, 900, 1000);
        both(x, "NIGHTS 1", 6);
        x.rule(9, 0);
        both(x, "NIGHTS 0", 0);
    }

    /** "7, if there are more than DUTIES of them": 3 at first */
    private static void promise12Rule7() {
        CrewOffice x = Scene.shuttle(4, 100, 1340);
        x.rule(7, 20160);
        both(x, "4 duties", 7);
        Scene.chain(x, 0, 1, 2);
        both(x, "3 duties", 8);
        x.rule(6, 2);
        both(x, "3 duties, DUTIES 2", 7);
        Scene.chain(x, 0, 1);
        both(x, "2 duties, DUTIES 2", 0);
    }

    /** "8, if the last one does not arrive where the first one departs" */
    private static void promise12Rule8() {
        CrewOffice x = Scene.twoFlights(100, 200, 300, 400);
        x.flight(1, 1, 2, 300, 400, 0);
        both(x, "it ends at 2", 8);
        x.flight(2, 2, 0, 500, 600, 0);
        x.chain(2);
        both(x, "it ends at 0", 0);
        Scene.chain(x, 0);
        both(x, "one flight", 8);
        x.crew(1, 2, 0, 7, 0);
        Scene.chain(x, 0, 1);
        both(x, "it ends at another crew's base", 8);
    }

    /** "9, if from its beginning to its end there are more than AWAY minutes": 4320 at first */
    private static void promise12Rule9() {
        CrewOffice x = Scene.twoFlights(100, 200, 4000, 4330);
        both(x, "away 4320", 0);
        x.flight(1, 1, 0, 4000, 4331, 0);
        both(x, "away 4321", 9);
        x.rule(0, 59);
        both(x, "away 4320 by a later beginning", 0);
        x.rule(1, 31);
        both(x, "away 4321 by a later end", 9);
    }

    /** "10, if it may not fly a type": each type, in the first flight and in the last */
    private static void promise12Rule10() {
        CrewOffice x = Scene.twoFlights(100, 200, 300, 400);
        for (int k = 0; k < 9; k++) {
            x.flight(0, 0, 1, 100, 200, k % 3);
            x.flight(1, 1, 0, 300, 400, k / 3);
            for (int types = 0; types < 8; types++) {
                x.crew(0, 0, 5, types, 0);
                boolean may = (types >> k % 3) % 2 == 1 && (types >> k / 3) % 2 == 1;
                due.equal("check(0), types " + k % 3 + " and " + k / 3 + " by " + types, x.check(0), may ? 0 : 10);
            }
        }
    }

    /** "11, if a minute from its beginning to before its end is off": rests are within, too */
    private static void promise12Rule11() {
        CrewOffice x = Scene.twoFlights(1000, 1100, 3000, 3100);
        int[][] spans = {{0, 940, 0}, {0, 941, 11}, {2000, 2001, 11}, {3129, 3130, 11}, {3130, 3131, 0}};
        for (int[] span : spans) {
            x.off(0, span[0], span[1]);
            due.equal("check(0), off from " + span[0] + " to " + span[1], x.check(0), span[2]);
        }
        CrewOffice early = Scene.twoFlights(0, 100, 200, 300);
        early.off(0, 0, 1);
        due.equal("check(0), off in minute 0, begun before it", early.check(0), 11);
    }

    /** "12, if the minutes in the air and those flown before are more than FLYING": 6000 at first */
    private static void promise12Rule12() {
        CrewOffice x = Scene.twoFlights(100, 200, 300, 401);
        x.crew(0, 0, 5, 7, 5799);
        due.equal("check(0), 6000", x.check(0), 0);
        x.crew(0, 0, 5, 7, 5800);
        due.equal("check(0), 6001", x.check(0), 12);
        x.crew(0, 0, 5, 7, 20000);
        due.equal("check(0), flown 20000", x.check(0), 12);
        due.equal("check(-1), flown 20000", x.check(-1), 0);
    }

    /** "Of the chain: 0 its beginning, 1 its end, 2 how many duties, 3 minutes in the air, 4 .. its longest duty" */
    private static void promise13OfOneDutyAndOfTwo() {
        CrewOffice x = Scene.twoFlights(100, 200, 499, 600);
        spans(x, "a gap of 299", 40, 630, 1, 201, 590);
        x.flight(1, 1, 0, 500, 700, 0);
        spans(x, "a gap of 300, the second is the longest", 40, 730, 2, 300, 290);
        x.flight(1, 1, 0, 500, 510, 0);
        spans(x, "a gap of 300, the first is the longest", 40, 540, 2, 110, 190);
        CrewOffice three = Scene.shuttle(3, 50, 400);
        three.flight(1, 1, 0, 930, 1010, 0);
        spans(three, "the second of three is the longest", 420, 1460, 3, 180, 170);
    }

    /** A chain of one flight, of eight, and of one flight eight times. */
    private static void promise13OfOneFlightAndOfEight() {
        CrewOffice one = Scene.shuttle(1, 50, 0);
        spans(one, "a flight", 420, 560, 1, 50, 140);
        spans(Scene.shuttle(8, 50, 299), "eight flights in a duty", 420, 3003, 1, 400, 2583);
        spans(Scene.shuttle(8, 50, 300), "eight flights in eight duties", 420, 3010, 8, 400, 140);
        Scene.chain(one, 0, 0, 0, 0, 0, 0, 0, 0);
        spans(one, "a flight eight times", 420, 560, 1, 400, 140);
    }

    /** The beginning may be before 0, and the end behind 20160. */
    private static void promise13OutsideOfTime() {
        spans(Scene.twoFlights(0, 100, 20000, 20160), "all of the time", -60, 20190, 2, 260, 250);
    }

    /** A chain that goes against the time: the beginning is that of its first duty, the end that of its last. */
    private static void promise13AgainstTheTime() {
        CrewOffice x = new CrewOffice();
        x.flight(0, 0, 1, 1000, 1100, 0);
        x.flight(1, 0, 1, 100, 200, 0);
        x.flight(2, 3, 4, 600, 601, 0);
        Scene.chain(x, 0, 1);
        spans(x, "against the time", 940, 230, 1, 200, -710);
        Scene.chain(x, 0, 1, 2);
        spans(x, "against the time and on", 940, 631, 2, 201, 91);
    }

    /** "Throws IllegalArgumentException for another what" */
    private static void promise13RefusesAnotherWhat() {
        CrewOffice x = Scene.twoFlights(100, 200, 300, 400);
        for (int what : Scene.outside(0, 4)) {
            due.fails("span(" + what + ")", Due.ARGUMENT, () -> x.span(what));
        }
    }

    /** "NoSuchElementException when a flight of it is not there": the first, one between, or the last */
    private static void promise13RefusesAFlightThatIsNotThere() {
        for (int gone = 0; gone < 3; gone++) {
            CrewOffice x = Scene.shuttle(3, 30, 30);
            x.drop(gone);
            for (int k = 0; k < 5; k++) {
                int what = k;
                due.fails("span(" + what + ") without flight " + gone, Due.ELEMENT, () -> x.span(what));
            }
            due.fails("span(5) without flight " + gone, Due.ARGUMENT, () -> x.span(5));
        }
    }

    /** "or it is empty"; another what is told first */
    private static void promise13RefusesAnEmptyChain() {
        CrewOffice x = new CrewOffice();
        for (int k = 0; k < 5; k++) {
            int what = k;
            due.fails("span(" + what + ")", Due.ELEMENT, () -> x.span(what));
        }
        due.fails("span(5)", Due.ARGUMENT, () -> x.span(5));
        due.fails("span(-1)", Due.ARGUMENT, () -> x.span(-1));
    }
}
