/** Promises 1 to 5, 8, 9 and 22: a new object, and what calls set. A test for each sentence that names a boundary. */
final class SettingTest {
    private static final Due due = new Due("SettingTest");

    public static void main(String[] args) {
        due.runAll(SettingTest.class);
    }

    /** "No flights" */
    private static void promise01HasNoFlights() {
        CrewOffice x = new CrewOffice();
        due.equal("look(0)", x.look(0), 0);
        for (int flight = 0; flight < 12; flight++) {
            due.equal("move(" + flight + ", 0)", x.move(flight, 0), false);
            due.equal("drop(" + flight + ")", x.drop(flight), false);
        }
    }

    /** "No .. crews" */
    private static void promise01HasNoCrews() {
        CrewOffice x = new CrewOffice();
        x.flight(0, 0, 1, 100, 200, 0);
        x.chain(0);
        due.equal("look(1)", x.look(1), 0);
        for (int k = 0; k < 4; k++) {
            int crew = k;
            due.fails("check(" + crew + ")", Due.ELEMENT, () -> x.check(crew));
            due.fails("off(" + crew + ", ..)", Due.ELEMENT, () -> x.off(crew, 0, 0));
            due.fails("bid(" + crew + ", ..)", Due.ELEMENT, () -> x.bid(crew, 0, 0, 0));
            due.fails("score(" + crew + ")", Due.ELEMENT, () -> x.score(crew));
        }
        due.equal("check(-1) from no crew's base", x.check(-1), 1);
    }

    /** "No .. bids" */
    private static void promise01HasNoBids() {
        CrewOffice x = new CrewOffice();
        for (int crew = 0; crew < 4; crew++) {
            x.crew(crew, 0, 0, 7, 0);
            due.equal("score(" + crew + ")", x.score(crew), 0);
            due.equal("a first bid of " + crew, x.bid(crew, 2, 0, 1), 1);
        }
    }

    /** "an empty chain" */
    private static void promise01HasAnEmptyChain() {
        CrewOffice x = new CrewOffice();
        due.equal("look(2)", x.look(2), 0);
        due.equal("clear()", x.clear(), 0);
        due.fails("check(-1)", Due.ELEMENT, () -> x.check(-1));
        due.fails("span(0)", Due.ELEMENT, () -> x.span(0));
        due.equal("a first flight of it", x.chain(0), 1);
    }

    /** "nothing listed" */
    private static void promise01HasNothingListed() {
        CrewOffice x = new CrewOffice();
        due.equal("look(3)", x.look(3), -1);
        due.equal("look(4)", x.look(4), -1);
        due.equal("look(5)", x.look(5), 0);
        due.fails("pairing(0, 0)", Due.ELEMENT, () -> x.pairing(0, 0));
        due.fails("covers(0)", Due.ELEMENT, () -> x.covers(0));
        due.fails("owner(0)", Due.ELEMENT, () -> x.owner(0));
        due.fails("award()", Due.STATE, x::award);
        due.equal("cover()", x.cover(), -1);
    }

    /** Terms: "(0, 20160, 0 at first)" */
    private static void promise01HasClocksWithoutOffsets() {
        CrewOffice x = new CrewOffice();
        for (int station = 0; station < 5; station++) {
            for (int minute : new int[] {0, 1, 10000, 20159, 20160}) {
                due.equal("local(" + station + ", " + minute + ")", x.local(station, minute), minute);
            }
        }
    }

    /** Each object is a new one: what was set in another one is not seen. */
    private static void promise01IsNotAsAnotherObject() {
        String before = Picture.of(new CrewOffice());
        CrewOffice other = Scene.busy();
        int[] values = {0, 0, 180, 120, 900, 1, 1, 60, 0, 0, 0};
        for (int n = 0; n < values.length; n++) {
            other.rule(n, values[n]);
        }
        other.limit(0, 2, 60);
        CrewOffice x = new CrewOffice();
        due.equal("a new object beside a busy one", Picture.of(x), before);
        CrewOffice two = Scene.twoFlights(100, 200, 499, 730);
        due.equal("check(0) by the rules at first", two.check(0), 0);
    }

    /** "An object is used for at most 512 calls": the last of them is answered as the first ones are */
    private static void promise01IsUsedFor512Calls() {
        CrewOffice x = Scene.twoFlights(100, 200, 300, 400);
        // six calls until here
        for (int k = 6; k < 508; k++) {
            due.equal("move(1, ..)", x.move(1, k % 2 == 0 ? 1 : -1), true);
        }
        due.equal("call 509, pairings()", x.pairings(), 1);
        due.equal("call 510, cover()", x.cover(), 390);
        due.equal("call 511, award()", x.award(), true);
        due.equal("call 512, owner(0)", x.owner(0), 0);
    }

    /** "A station's offsets and when they change": "from a minute CHANGE on another one" */
    private static void promise02ChangesAtItsMinute() {
        CrewOffice x = new CrewOffice();
        x.zone(2, -60, 1000, 90);
        due.equal("local at 0", x.local(2, 0), -60);
        due.equal("local right before the change", x.local(2, 999), 939);
        due.equal("local at the change", x.local(2, 1000), 1090);
        due.equal("local right behind the change", x.local(2, 1001), 1091);
        due.equal("local at the end", x.local(2, 20160), 20250);
    }

    private static void promise02SetsOneStationAlone() {
        for (int station = 0; station < 5; station++) {
            CrewOffice x = new CrewOffice();
            x.zone(station, 10, 500, 20);
            for (int other = 0; other < 5; other++) {
                due.equal("local of " + other, x.local(other, 499), other == station ? 509 : 499);
                due.equal("local of " + other, x.local(other, 500), other == station ? 520 : 500);
            }
        }
    }

    private static void promise02TakesThePlaceOfAnother() {
        CrewOffice x = new CrewOffice();
        x.zone(2, -720, 1000, 720);
        x.zone(2, 1, 5, 2);
        due.equal("local before the new change", x.local(2, 4), 5);
        due.equal("local at the new change", x.local(2, 5), 7);
        due.equal("local at the old change", x.local(2, 1000), 1002);
    }

    /** "Throws .. when there is no such station" */
    private static void promise02RefusesAStation() {
        CrewOffice x = new CrewOffice();
        for (int station : Scene.outside(0, 4)) {
            due.fails("zone(" + station + ", ..)", Due.ARGUMENT, () -> x.zone(station, 0, 20160, 0));
        }
    }

    /** "an offset is not -720 .. 720": the first one */
    private static void promise02RefusesAFirstOffset() {
        CrewOffice x = new CrewOffice();
        for (int offset : Scene.outside(-720, 720)) {
            due.fails("zone(0, " + offset + ", ..)", Due.ARGUMENT, () -> x.zone(0, offset, 20160, 0));
        }
        x.zone(0, -720, 20160, 0);
        due.equal("local by -720", x.local(0, 0), -720);
        x.zone(0, 720, 20160, 0);
        due.equal("local by 720", x.local(0, 0), 720);
    }

    /** "an offset is not -720 .. 720": the second one */
    private static void promise02RefusesASecondOffset() {
        CrewOffice x = new CrewOffice();
        for (int offset : Scene.outside(-720, 720)) {
            due.fails("zone(0, .., " + offset + ")", Due.ARGUMENT, () -> x.zone(0, 0, 20160, offset));
        }
        x.zone(0, 0, 20160, -720);
        due.equal("local by -720", x.local(0, 20160), 19440);
        x.zone(0, 0, 20160, 720);
        due.equal("local by 720", x.local(0, 20160), 20880);
    }

    /** "or change not 0 .. 20160" */
    private static void promise02RefusesAChange() {
        CrewOffice x = new CrewOffice();
        for (int change : Scene.outside(0, 20160)) {
            due.fails("zone(0, 0, " + change + ", 0)", Due.ARGUMENT, () -> x.zone(0, 0, change, 0));
        }
        x.zone(0, 30, 0, -15);
        due.equal("local at 0, changed from 0 on", x.local(0, 0), -15);
        x.zone(0, 30, 20160, -15);
        due.equal("local before the last minute", x.local(0, 20159), 20189);
        due.equal("local at the last minute", x.local(0, 20160), 20145);
    }

    /** "A flight is there": the first and the last number */
    private static void promise03IsThere() {
        CrewOffice x = new CrewOffice();
        x.flight(0, 0, 4, 100, 200, 0);
        due.equal("look(0)", x.look(0), 1);
        x.flight(11, 4, 0, 100, 200, 2);
        due.equal("look(0)", x.look(0), 2);
        for (int flight = 1; flight < 11; flight++) {
            x.flight(flight, 1, 2, flight, 20 + flight, 1);
        }
        due.equal("look(0), all", x.look(0), 12);
        Scene.chain(x, 10);
        due.equal("span(0) of flight 10", x.span(0), -50);
        Scene.chain(x, 11);
        due.equal("span(0) of flight 11", x.span(0), 40);
    }

    /** "in place of another one": both stations, both times and the type are the new ones */
    private static void promise03TakesThePlaceOfAnother() {
        CrewOffice x = Scene.twoFlights(100, 200, 300, 400);
        x.crew(0, 2, 5, 4, 0);
        x.flight(0, 2, 3, 1000, 1110, 2);
        x.flight(1, 3, 2, 1200, 1330, 2);
        due.equal("look(0)", x.look(0), 2);
        due.equal("check(0), types and stations", x.check(0), 0);
        due.equal("span(0)", x.span(0), 940);
        due.equal("span(1)", x.span(1), 1360);
        due.equal("span(3)", x.span(3), 240);
        x.flight(1, 3, 2, 1200, 1330, 1);
        due.equal("check(0), another type", x.check(0), 10);
        x.flight(1, 3, 1, 1200, 1330, 2);
        due.equal("check(0), to another station", x.check(0), 8);
        x.flight(1, 1, 2, 1200, 1330, 2);
        due.equal("check(0), from another station", x.check(0), 2);
    }

    /** "Throws .. when there is no such flight" */
    private static void promise03RefusesAFlight() {
        CrewOffice x = new CrewOffice();
        for (int flight : Scene.outside(0, 11)) {
            due.fails("flight(" + flight + ", ..)", Due.ARGUMENT, () -> x.flight(flight, 0, 1, 100, 200, 0));
        }
        due.equal("look(0)", x.look(0), 0);
    }

    /** "no such .. station": from which it departs */
    private static void promise03RefusesAStationFrom() {
        CrewOffice x = new CrewOffice();
        for (int station : Scene.outside(0, 4)) {
            due.fails("flight from " + station, Due.ARGUMENT, () -> x.flight(0, station, 1, 100, 200, 0));
        }
        due.equal("look(0)", x.look(0), 0);
        x.flight(0, 0, 1, 100, 200, 0);
        x.flight(1, 4, 1, 100, 200, 0);
        due.equal("look(0), from 0 and from 4", x.look(0), 2);
    }

    /** "no such .. station": at which it arrives */
    private static void promise03RefusesAStationTo() {
        CrewOffice x = new CrewOffice();
        for (int station : Scene.outside(0, 4)) {
            due.fails("flight to " + station, Due.ARGUMENT, () -> x.flight(0, 1, station, 100, 200, 0));
        }
        due.equal("look(0)", x.look(0), 0);
        x.flight(0, 1, 0, 100, 200, 0);
        x.flight(1, 1, 4, 100, 200, 0);
        due.equal("look(0), to 0 and to 4", x.look(0), 2);
    }

    /** "no such .. type" */
    private static void promise03RefusesAType() {
        CrewOffice x = new CrewOffice();
        for (int type : Scene.outside(0, 2)) {
            due.fails("flight of type " + type, Due.ARGUMENT, () -> x.flight(0, 0, 1, 100, 200, type));
        }
        due.equal("look(0)", x.look(0), 0);
        for (int type = 0; type < 3; type++) {
            x.flight(type, 0, 1, 100, 200, type);
        }
        due.equal("look(0), of each type", x.look(0), 3);
    }

    /** "both stations are the same" */
    private static void promise03RefusesToArriveWhereItDeparts() {
        CrewOffice x = new CrewOffice();
        for (int k = 0; k < 5; k++) {
            int station = k;
            due.fails("flight from " + k + " to " + k, Due.ARGUMENT, () -> x.flight(0, station, station, 1, 2, 0));
        }
        due.equal("look(0)", x.look(0), 0);
    }

    /** "departs is below 0" */
    private static void promise03RefusesToDepartBelow0() {
        CrewOffice x = new CrewOffice();
        due.fails("departs -1", Due.ARGUMENT, () -> x.flight(0, 0, 1, -1, 50, 0));
        due.fails("departs -100, arrives -50", Due.ARGUMENT, () -> x.flight(0, 0, 1, -100, -50, 0));
        due.fails("departs MIN", Due.ARGUMENT, () -> x.flight(0, 0, 1, Scene.MIN, 50, 0));
        x.flight(0, 0, 1, 0, 50, 0);
        x.chain(0);
        due.equal("its beginning when it departs 0", x.span(0), -60);
    }

    /** "arrives not behind it" */
    private static void promise03RefusesToArriveBeforeItDeparts() {
        CrewOffice x = new CrewOffice();
        due.fails("arrives when it departs", Due.ARGUMENT, () -> x.flight(0, 0, 1, 7, 7, 0));
        due.fails("arrives before it departs", Due.ARGUMENT, () -> x.flight(0, 0, 1, 7, 6, 0));
        due.fails("arrives MIN", Due.ARGUMENT, () -> x.flight(0, 0, 1, 7, Scene.MIN, 0));
        due.fails("departs MAX, arrives MIN", Due.ARGUMENT, () -> x.flight(0, 0, 1, Scene.MAX, Scene.MIN, 0));
        due.fails("departs MAX", Due.ARGUMENT, () -> x.flight(0, 0, 1, Scene.MAX, 20160, 0));
        due.fails("both 20160", Due.ARGUMENT, () -> x.flight(0, 0, 1, 20160, 20160, 0));
        due.fails("both 0", Due.ARGUMENT, () -> x.flight(0, 0, 1, 0, 0, 0));
        x.flight(0, 0, 1, 7, 8, 0);
        x.chain(0);
        due.equal("a minute in the air", x.span(3), 1);
    }

    /** "above 20160" */
    private static void promise03RefusesToArriveAbove20160() {
        CrewOffice x = new CrewOffice();
        due.fails("arrives 20161", Due.ARGUMENT, () -> x.flight(0, 0, 1, 20000, 20161, 0));
        due.fails("20160 to 20161", Due.ARGUMENT, () -> x.flight(0, 0, 1, 20160, 20161, 0));
        due.fails("arrives MAX", Due.ARGUMENT, () -> x.flight(0, 0, 1, Scene.MAX - 1, Scene.MAX, 0));
        x.flight(0, 0, 1, 20159, 20160, 0);
        x.chain(0);
        due.equal("its end when it arrives 20160", x.span(1), 20190);
    }

    /** "or more than 900 later" */
    private static void promise03RefusesMoreThan900Minutes() {
        CrewOffice x = new CrewOffice();
        due.fails("901 minutes", Due.ARGUMENT, () -> x.flight(0, 0, 1, 7, 908, 0));
        due.fails("20160 minutes", Due.ARGUMENT, () -> x.flight(0, 0, 1, 0, 20160, 0));
        due.fails("MIN to MAX", Due.ARGUMENT, () -> x.flight(0, 0, 1, Scene.MIN, Scene.MAX, 0));
        x.flight(0, 0, 1, 7, 907, 0);
        x.chain(0);
        due.equal("900 minutes", x.span(3), 900);
    }

    /** "A flight is there no more: whether it was." */
    private static void promise04TellsWhetherItWas() {
        CrewOffice x = new CrewOffice();
        x.flight(0, 0, 1, 100, 200, 0);
        x.flight(11, 0, 1, 100, 200, 0);
        due.equal("drop(3), never there", x.drop(3), false);
        due.equal("look(0)", x.look(0), 2);
        due.equal("drop(11)", x.drop(11), true);
        due.equal("look(0)", x.look(0), 1);
        due.equal("drop(11) again", x.drop(11), false);
        due.equal("move(11, 1), dropped", x.move(11, 1), false);
        due.equal("drop(0)", x.drop(0), true);
        due.equal("look(0), none left", x.look(0), 0);
        x.flight(11, 0, 1, 100, 200, 0);
        due.equal("drop(11), there again", x.drop(11), true);
    }

    private static void promise04LeavesTheOthers() {
        CrewOffice x = new CrewOffice();
        for (int flight = 0; flight < 12; flight++) {
            x.flight(flight, 0, 1, 100 + flight, 200, 0);
        }
        due.equal("drop(5)", x.drop(5), true);
        for (int flight = 0; flight < 12; flight++) {
            due.equal("move(" + flight + ", 0)", x.move(flight, 0), flight != 5);
        }
    }

    /** "Throws .. when it is not 0 .. 11." */
    private static void promise04RefusesAFlight() {
        CrewOffice x = new CrewOffice();
        for (int flight : Scene.outside(0, 11)) {
            due.fails("drop(" + flight + ")", Due.ARGUMENT, () -> x.drop(flight));
        }
    }

    /** "A flight departs and arrives so many minutes later (or, below 0, earlier): true" */
    private static void promise05MovesBothTimes() {
        CrewOffice x = Scene.twoFlights(100, 200, 300, 410);
        due.equal("move(1, 10)", x.move(1, 10), true);
        due.equal("its end", x.span(1), 450);
        due.equal("minutes in the air", x.span(3), 210);
        due.equal("move(0, -30)", x.move(0, -30), true);
        due.equal("its beginning", x.span(0), 10);
        due.equal("minutes in the air", x.span(3), 210);
        due.equal("move(0, 0)", x.move(0, 0), true);
        due.equal("its beginning", x.span(0), 10);
        due.equal("check(0), stations and types as before", x.check(0), 0);
        due.equal("look(0)", x.look(0), 2);
    }

    /** "false, and nothing changes, when it is not there" */
    private static void promise05IsFalseForNoFlight() {
        CrewOffice x = Scene.twoFlights(100, 200, 300, 400);
        due.equal("move(4, 1)", x.move(4, 1), false);
        due.equal("move(4, 0)", x.move(4, 0), false);
        due.equal("look(0)", x.look(0), 2);
        due.equal("drop(1)", x.drop(1), true);
        due.equal("move(1, 1), dropped", x.move(1, 1), false);
        x.flight(1, 1, 0, 300, 400, 0);
        due.equal("its end, not moved", x.span(1), 430);
    }

    /** "or would leave its bounds": below 0 */
    private static void promise05IsFalseBelow0() {
        CrewOffice x = Scene.twoFlights(100, 200, 300, 400);
        due.equal("move(0, -101)", x.move(0, -101), false);
        due.equal("its beginning, not moved", x.span(0), 40);
        due.equal("move(0, MIN)", x.move(0, Scene.MIN), false);
        due.equal("its beginning, not moved", x.span(0), 40);
        due.equal("move(0, -100)", x.move(0, -100), true);
        due.equal("its beginning, departs 0", x.span(0), -60);
        due.equal("minutes in the air", x.span(3), 200);
        due.equal("move(0, -1)", x.move(0, -1), false);
    }

    /** "or would leave its bounds": above 20160 */
    private static void promise05IsFalseAbove20160() {
        CrewOffice x = Scene.twoFlights(100, 200, 300, 400);
        due.equal("move(1, 19761)", x.move(1, 19761), false);
        due.equal("its end, not moved", x.span(1), 430);
        due.equal("move(1, MAX)", x.move(1, Scene.MAX), false);
        due.equal("its end, not moved", x.span(1), 430);
        due.equal("move(1, MAX - 300)", x.move(1, Scene.MAX - 300), false);
        due.equal("move(1, 19760)", x.move(1, 19760), true);
        due.equal("its end, arrives 20160", x.span(1), 20190);
        due.equal("minutes in the air", x.span(3), 200);
        due.equal("move(1, 1)", x.move(1, 1), false);
    }

    /** "Throws .. when it is not 0 .. 11." */
    private static void promise05RefusesAFlight() {
        CrewOffice x = new CrewOffice();
        for (int flight : Scene.outside(0, 11)) {
            due.fails("move(" + flight + ", 0)", Due.ARGUMENT, () -> x.move(flight, 0));
        }
        x.flight(0, 0, 1, 100, 200, 0);
        x.flight(11, 0, 1, 100, 200, 0);
        due.equal("move(0, 5)", x.move(0, 5), true);
        due.equal("move(11, 5)", x.move(11, 5), true);
    }

    /** "A crew is there": the first and the last number */
    private static void promise08IsThere() {
        CrewOffice x = new CrewOffice();
        x.crew(0, 0, 0, 0, 0);
        due.equal("look(1)", x.look(1), 1);
        x.crew(3, 4, 99, 7, 20000);
        due.equal("look(1)", x.look(1), 2);
        due.equal("score(3)", x.score(3), 0);
        due.fails("score(1), not there", Due.ELEMENT, () -> x.score(1));
        due.fails("score(2), not there", Due.ELEMENT, () -> x.score(2));
    }

    /** "in place of another one": base, types and minutes flown are the new ones */
    private static void promise08TakesThePlaceOfAnother() {
        CrewOffice x = Scene.twoFlights(100, 200, 300, 400);
        due.equal("check(0)", x.check(0), 0);
        x.crew(0, 1, 5, 7, 0);
        due.equal("look(1)", x.look(1), 1);
        due.equal("check(0), another base", x.check(0), 1);
        due.equal("check(-1), nobody at that base any more", x.check(-1), 1);
        x.crew(0, 0, 5, 6, 0);
        due.equal("check(0), other types", x.check(0), 10);
        x.crew(0, 0, 5, 1, 5801);
        due.equal("check(0), a minute too many flown", x.check(0), 12);
        x.crew(0, 0, 5, 1, 5800);
        due.equal("check(0), just enough left", x.check(0), 0);
    }

    /** "in place of another one": the rank is the new one */
    private static void promise08TakesThePlaceWithItsRank() {
        CrewOffice x = Scene.twoFlights(100, 200, 300, 400);
        x.crew(1, 0, 99, 7, 0);
        for (int rank : new int[] {0, 99}) {
            x.crew(0, 0, 99 - rank, 7, 0);
            x.crew(1, 0, rank, 7, 0);
            x.pairings();
            x.cover();
            x.award();
            due.equal("owner(0), crew 1 of rank " + rank, x.owner(0), rank == 99 ? 1 : 0);
        }
    }

    /** "without a time off" */
    private static void promise08HasNoTimeOff() {
        CrewOffice x = Scene.twoFlights(100, 200, 300, 400);
        x.crew(1, 0, 5, 7, 0);
        x.off(0, 300, 301);
        x.off(1, 300, 301);
        due.equal("check(0), off", x.check(0), 11);
        x.crew(0, 0, 5, 7, 0);
        due.equal("check(0), a new crew", x.check(0), 0);
        due.equal("check(1), the other one as before", x.check(1), 11);
    }

    /** "and bids" */
    private static void promise08HasNoBids() {
        CrewOffice x = new CrewOffice();
        x.crew(0, 0, 5, 7, 0);
        x.crew(1, 0, 5, 7, 0);
        for (int k = 0; k < 6; k++) {
            x.bid(0, 2, 5, 7);
            x.bid(1, 2, 5, 7);
        }
        due.equal("score(0)", x.score(0), 42);
        x.crew(0, 0, 5, 7, 0);
        due.equal("score(0), a new crew", x.score(0), 0);
        due.equal("score(1), the other one as before", x.score(1), 42);
        due.equal("a first bid again", x.bid(0, 2, 5, 9), 1);
        due.equal("score(0)", x.score(0), 9);
    }

    /** "Throws .. when there is no such crew" */
    private static void promise08RefusesACrew() {
        CrewOffice x = new CrewOffice();
        for (int crew : Scene.outside(0, 3)) {
            due.fails("crew(" + crew + ", ..)", Due.ARGUMENT, () -> x.crew(crew, 0, 0, 0, 0));
        }
        due.equal("look(1)", x.look(1), 0);
    }

    /** "or base" */
    private static void promise08RefusesABase() {
        CrewOffice x = new CrewOffice();
        for (int base : Scene.outside(0, 4)) {
            due.fails("crew of base " + base, Due.ARGUMENT, () -> x.crew(0, base, 0, 0, 0));
        }
        due.equal("look(1)", x.look(1), 0);
        x.crew(0, 4, 0, 7, 0);
        x.flight(0, 4, 0, 100, 200, 0);
        x.chain(0);
        due.equal("check(0) from 4", x.check(0), 8);
    }

    /** "rank is not 0 .. 99" */
    private static void promise08RefusesARank() {
        CrewOffice x = new CrewOffice();
        for (int rank : Scene.outside(0, 99)) {
            due.fails("crew of rank " + rank, Due.ARGUMENT, () -> x.crew(0, 0, rank, 0, 0));
        }
        due.equal("look(1)", x.look(1), 0);
        x.crew(0, 0, 0, 0, 0);
        x.crew(1, 0, 99, 0, 0);
        due.equal("look(1), ranks 0 and 99", x.look(1), 2);
    }

    /** "types not 0 .. 7" */
    private static void promise08RefusesTypes() {
        CrewOffice x = new CrewOffice();
        for (int types : Scene.outside(0, 7)) {
            due.fails("crew of types " + types, Due.ARGUMENT, () -> x.crew(0, 0, 0, types, 0));
        }
        due.equal("look(1)", x.look(1), 0);
        x.crew(0, 0, 0, 0, 0);
        x.crew(1, 0, 0, 7, 0);
        due.equal("look(1), types 0 and 7", x.look(1), 2);
    }

    /** "or flown not 0 .. 20000" */
    private static void promise08RefusesMinutesFlown() {
        CrewOffice x = new CrewOffice();
        for (int flown : Scene.outside(0, 20000)) {
            due.fails("crew with flown " + flown, Due.ARGUMENT, () -> x.crew(0, 0, 0, 0, flown));
        }
        due.equal("look(1)", x.look(1), 0);
        x.crew(0, 0, 0, 0, 0);
        x.crew(1, 0, 0, 0, 20000);
        due.equal("look(1), flown 0 and 20000", x.look(1), 2);
    }

    /** "A crew's time off": "from a minute to before another one"; the chain is from 40 to before 430 */
    private static void promise09IsOffFromAMinuteToBeforeAnother() {
        CrewOffice x = Scene.twoFlights(100, 200, 300, 400);
        int[][] spans = {
            {0, 40, 0}, {0, 41, 11}, {40, 41, 11}, {39, 40, 0}, {429, 430, 11}, {430, 431, 0}, {429, 20160, 11},
            {430, 20160, 0}, {0, 20160, 11}, {240, 241, 11}, {40, 430, 11}};
        for (int[] span : spans) {
            x.off(0, span[0], span[1]);
            due.equal("check(0), off from " + span[0] + " to " + span[1], x.check(0), span[2]);
            due.equal("check(-1)", x.check(-1), 0);
        }
    }

    /** "none if that is not later" */
    private static void promise09IsNotOffIfThatIsNotLater() {
        CrewOffice x = Scene.twoFlights(100, 200, 300, 400);
        int[][] spans = {{100, 100}, {101, 100}, {300, 100}, {20160, 0}, {20160, 20160}, {0, 0}, {500, 41}};
        for (int[] span : spans) {
            x.off(0, 0, 20160);
            due.equal("check(0), off all the time", x.check(0), 11);
            x.off(0, span[0], span[1]);
            due.equal("check(0), off from " + span[0] + " to " + span[1], x.check(0), 0);
        }
    }

    /** A time off is in place of the one before, and of one crew alone. */
    private static void promise09TakesThePlaceOfAnother() {
        CrewOffice x = Scene.twoFlights(100, 200, 300, 400);
        x.crew(3, 0, 5, 7, 0);
        x.off(3, 100, 200);
        due.equal("check(3)", x.check(3), 11);
        due.equal("check(0)", x.check(0), 0);
        x.off(3, 5000, 6000);
        due.equal("check(3), another time off", x.check(3), 0);
    }

    /** "Throws IllegalArgumentException when it is not 0 .. 3" */
    private static void promise09RefusesACrew() {
        CrewOffice x = new CrewOffice();
        for (int crew : Scene.outside(0, 3)) {
            due.fails("off(" + crew + ", ..)", Due.ARGUMENT, () -> x.off(crew, 0, 0));
        }
    }

    /** "or a time is not 0 .. 20160" */
    private static void promise09RefusesATime() {
        CrewOffice x = Scene.twoFlights(100, 200, 300, 400);
        for (int time : Scene.outside(0, 20160)) {
            due.fails("off from " + time, Due.ARGUMENT, () -> x.off(0, time, 20160));
            due.fails("off to " + time, Due.ARGUMENT, () -> x.off(0, 0, time));
        }
        due.equal("check(0)", x.check(0), 0);
    }

    /** "NoSuchElementException when it is not there"; of two exceptions the first one listed */
    private static void promise09RefusesACrewThatIsNotThere() {
        CrewOffice x = new CrewOffice();
        x.crew(1, 0, 0, 0, 0);
        for (int k : new int[] {0, 2, 3}) {
            int crew = k;
            due.fails("off(" + crew + ", 0, 0)", Due.ELEMENT, () -> x.off(crew, 0, 0));
            due.fails("off(" + crew + ", 0, 20160)", Due.ELEMENT, () -> x.off(crew, 0, 20160));
            due.fails("off(" + crew + ", -1, 0)", Due.ARGUMENT, () -> x.off(crew, -1, 0));
            due.fails("off(" + crew + ", 0, 20161)", Due.ARGUMENT, () -> x.off(crew, 0, 20161));
        }
    }

    /** "Throws .. when there is no such station" */
    private static void promise22RefusesAStation() {
        CrewOffice x = new CrewOffice();
        for (int station : Scene.outside(0, 4)) {
            due.fails("local(" + station + ", 0)", Due.ARGUMENT, () -> x.local(station, 0));
        }
    }

    /** "or the minute is not 0 .. 20160" */
    private static void promise22RefusesAMinute() {
        CrewOffice x = new CrewOffice();
        for (int minute : Scene.outside(0, 20160)) {
            due.fails("local(0, " + minute + ")", Due.ARGUMENT, () -> x.local(0, minute));
        }
        due.equal("local(0, 0)", x.local(0, 0), 0);
        due.equal("local(0, 20160)", x.local(0, 20160), 20160);
    }

    /** "The local time of a minute": it is below 0, or above 20160, where the offset makes it so */
    private static void promise22MayLieOutsideOfTime() {
        CrewOffice x = new CrewOffice();
        x.zone(3, -720, 20160, 720);
        due.equal("local(3, 0)", x.local(3, 0), -720);
        due.equal("local(3, 719)", x.local(3, 719), -1);
        due.equal("local(3, 720)", x.local(3, 720), 0);
        due.equal("local(3, 20159)", x.local(3, 20159), 19439);
        due.equal("local(3, 20160)", x.local(3, 20160), 20880);
    }
}
