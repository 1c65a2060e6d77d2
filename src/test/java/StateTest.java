import java.util.function.Consumer;

/**
 * Promise 23, and what the terms say of all calls: which of them empty pairings, cover and awards, and that a call
 * that throws, or answers false, changes nothing.
 */
final class StateTest {
    private static final Due due = new Due("StateTest");

    public static void main(String[] args) {
        due.runAll(StateTest.class);
    }

    /** "empties pairings, cover and awards": a call that sets something, "to what it was, too" */
    private static void empties(String what, Consumer<CrewOffice> call) {
        CrewOffice x = Scene.awarded();
        due.equal("look(5) before " + what, x.look(5), 1);
        call.accept(x);
        due.equal("look(3) behind " + what, x.look(3), -1);
        due.equal("look(4) behind " + what, x.look(4), -1);
        due.equal("look(5) behind " + what, x.look(5), 0);
        due.fails("pairing(0, 0) behind " + what, Due.ELEMENT, () -> x.pairing(0, 0));
        due.fails("covers(0) behind " + what, Due.ELEMENT, () -> x.covers(0));
        due.fails("owner(0) behind " + what, Due.ELEMENT, () -> x.owner(0));
        due.fails("award() behind " + what, Due.STATE, x::award);
        due.equal("cover() behind " + what, x.cover(), -1);
        due.equal("look(2) behind " + what + ": the chain is not emptied", x.look(2), 2);
    }

    private static void keeps(String what, Consumer<CrewOffice> call) {
        CrewOffice x = Scene.awarded();
        call.accept(x);
        due.equal("look(3) behind " + what, x.look(3), 1);
        due.equal("look(4) behind " + what, x.look(4), 1);
        due.equal("look(5) behind " + what, x.look(5), 1);
        due.equal("pairing(0, 1) behind " + what, x.pairing(0, 1), 1);
        due.equal("covers(0) behind " + what, x.covers(0), true);
        due.equal("owner(0) behind " + what, x.owner(0), 0);
    }

    /** A call that throws, or answers false, in a state in which nearly all that can be set counts. */
    private static void changesNothing(String what, Consumer<CrewOffice> call) {
        CrewOffice x = Scene.busy();
        String now = Picture.of(x);
        call.accept(x);
        due.equal("what can be asked behind " + what, Picture.of(x), now);
        due.equal("all that follows " + what, Picture.goingOn(x), Picture.goingOn(Scene.busy()));
    }

    private static void throwing(String what, Class<? extends RuntimeException> thrown, Consumer<CrewOffice> call) {
        changesNothing(what, x -> due.fails(what, thrown, () -> call.accept(x)));
    }

    private static void promise02Empties() {
        empties("a zone as it was", x -> x.zone(0, 0, 20160, 0));
        empties("a zone of a station without flights", x -> x.zone(4, 1, 2, 3));
    }

    private static void promise03Empties() {
        empties("a flight as it was", x -> x.flight(0, 0, 1, 100, 200, 0));
        empties("a flight more", x -> x.flight(11, 3, 4, 100, 200, 0));
    }

    private static void promise04Empties() {
        empties("a drop", x -> x.drop(0));
        empties("a drop of the last one", x -> x.drop(1));
    }

    /** "but one that answers false" */
    private static void promise04KeepsWhenFalse() {
        keeps("a drop of no flight", x -> due.equal("drop(7)", x.drop(7), false));
        changesNothing("a drop of no flight", x -> due.equal("drop(7)", x.drop(7), false));
    }

    private static void promise05Empties() {
        empties("a move by nothing", x -> due.equal("move(0, 0)", x.move(0, 0), true));
        empties("a move", x -> due.equal("move(1, 1)", x.move(1, 1), true));
    }

    /** "but one that answers false": "false, and nothing changes" */
    private static void promise05KeepsWhenFalse() {
        keeps("a move of no flight", x -> due.equal("move(2, 0)", x.move(2, 0), false));
        keeps("a move below 0", x -> due.equal("move(0, -101)", x.move(0, -101), false));
        keeps("a move above 20160", x -> due.equal("move(1, 19761)", x.move(1, 19761), false));
        changesNothing("a move of no flight", x -> due.equal("move(9, 0)", x.move(9, 0), false));
        changesNothing("a move below 0", x -> due.equal("move(2, -2201)", x.move(2, -2201), false));
        changesNothing("a move above 20160", x -> due.equal("move(3, 16731)", x.move(3, 16731), false));
        changesNothing("a move by MIN", x -> due.equal("move(2, MIN)", x.move(2, Scene.MIN), false));
        changesNothing("a move by MAX", x -> due.equal("move(3, MAX)", x.move(3, Scene.MAX), false));
    }

    private static void promise06Empties() {
        int[] first = {60, 30, 30, 300, 600, 4, 3, 4320, 200, 1, 6000};
        for (int k = 0; k < first.length; k++) {
            int n = k;
            empties("rule(" + n + ", " + first[n] + "), as it was", x -> x.rule(n, first[n]));
        }
    }

    private static void promise07Empties() {
        empties("a limit as it was", x -> x.limit(0, 1, 720));
        empties("a limit", x -> x.limit(3, 4, 1440));
    }

    private static void promise08Empties() {
        empties("a crew as it was", x -> x.crew(0, 0, 5, 7, 0));
        empties("a crew more", x -> x.crew(3, 4, 0, 0, 0));
    }

    private static void promise09Empties() {
        empties("a time off as it was", x -> x.off(0, 0, 0));
        empties("a time off", x -> x.off(0, 5000, 6000));
    }

    /** Calls that set nothing leave pairings, cover and awards, and a chain has nothing to do with them. */
    private static void promise10And11KeepPairings() {
        keeps("a clear", CrewOffice::clear);
        keeps("a chain", x -> x.chain(11));
    }

    private static void promise12And13KeepPairings() {
        keeps("a check", x -> x.check(0));
        keeps("a check for no crew", x -> x.check(-1));
        for (int k = 0; k < 5; k++) {
            int what = k;
            keeps("a span", x -> x.span(what));
        }
    }

    /** The draft of pairings is not the chain. */
    private static void promise14KeepsTheChain() {
        CrewOffice x = Scene.busy();
        Scene.chain(x, 3, 2, 1);
        int begin = x.span(0);
        int end = x.span(1);
        x.pairings();
        x.cover();
        x.award();
        due.equal("look(2)", x.look(2), 3);
        due.equal("span(0)", x.span(0), begin);
        due.equal("span(1)", x.span(1), end);
        due.equal("clear()", x.clear(), 3);
    }

    private static void promise21To23KeepPairings() {
        keeps("a score", x -> x.score(0));
        keeps("a local", x -> x.local(0, 0));
        for (int k = 0; k < 6; k++) {
            int what = k;
            keeps("a look", x -> x.look(what));
        }
    }

    /** "a call that throws changes nothing" */
    private static void promise02ChangesNothingWhenItThrows() {
        throwing("zone(5, 0, 0, 0)", Due.ARGUMENT, x -> x.zone(5, 0, 0, 0));
        throwing("zone(-1, 0, 0, 0)", Due.ARGUMENT, x -> x.zone(-1, 0, 0, 0));
        throwing("zone(0, 721, 5, 6)", Due.ARGUMENT, x -> x.zone(0, 721, 5, 6));
        throwing("zone(0, 5, 5, -721)", Due.ARGUMENT, x -> x.zone(0, 5, 5, -721));
        throwing("zone(0, 5, 20161, 6)", Due.ARGUMENT, x -> x.zone(0, 5, 20161, 6));
    }

    private static void promise03ChangesNothingWhenItThrows() {
        throwing("flight(12, ..)", Due.ARGUMENT, x -> x.flight(12, 0, 1, 480, 600, 0));
        throwing("flight(2, 5, ..)", Due.ARGUMENT, x -> x.flight(2, 5, 3, 480, 600, 1));
        throwing("flight(2, 3, 5, ..)", Due.ARGUMENT, x -> x.flight(2, 3, 5, 480, 600, 1));
        throwing("flight(2, 3, 3, ..)", Due.ARGUMENT, x -> x.flight(2, 3, 3, 480, 600, 1));
        throwing("flight(2, .., -1, ..)", Due.ARGUMENT, x -> x.flight(2, 3, 4, -1, 600, 1));
        throwing("flight(2, .., 600, 600, ..)", Due.ARGUMENT, x -> x.flight(2, 3, 4, 600, 600, 1));
        throwing("flight(2, .., 20161, ..)", Due.ARGUMENT, x -> x.flight(2, 3, 4, 20000, 20161, 1));
        throwing("flight(2, .., 901 later, ..)", Due.ARGUMENT, x -> x.flight(2, 3, 4, 600, 1501, 1));
        throwing("flight(2, .., type 3)", Due.ARGUMENT, x -> x.flight(2, 3, 4, 480, 600, 3));
        throwing("flight(9, .., type 3), not there", Due.ARGUMENT, x -> x.flight(9, 3, 4, 480, 600, 3));
    }

    private static void promise04And05ChangeNothingWhenTheyThrow() {
        throwing("drop(12)", Due.ARGUMENT, x -> x.drop(12));
        throwing("drop(-1)", Due.ARGUMENT, x -> x.drop(-1));
        throwing("move(12, 1)", Due.ARGUMENT, x -> x.move(12, 1));
        throwing("move(-1, 1)", Due.ARGUMENT, x -> x.move(-1, 1));
    }

    private static void promise06ChangesNothingWhenItThrows() {
        int[] least = {0, 0, 0, 120, 0, 1, 1, 60, 0, 0, 0};
        int[] most = {120, 120, 180, 900, 900, 8, 8, 20160, 10000, 1, 20000};
        for (int k = 0; k < 11; k++) {
            int n = k;
            throwing("rule(" + n + ", too small)", Due.ARGUMENT, x -> x.rule(n, least[n] - 1));
            throwing("rule(" + n + ", too large)", Due.ARGUMENT, x -> x.rule(n, most[n] + 1));
        }
        throwing("rule(11, 1)", Due.ARGUMENT, x -> x.rule(11, 1));
        throwing("rule(-1, 1)", Due.ARGUMENT, x -> x.rule(-1, 1));
    }

    private static void promise07ChangesNothingWhenItThrows() {
        for (int k = 0; k < 4; k++) {
            int band = k;
            throwing("limit(" + band + ", 1, 59)", Due.ARGUMENT, x -> x.limit(band, 1, 59));
            throwing("limit(" + band + ", 1, 1441)", Due.ARGUMENT, x -> x.limit(band, 1, 1441));
        }
        throwing("limit(4, 1, 60)", Due.ARGUMENT, x -> x.limit(4, 1, 60));
        throwing("limit(1, 0, 60)", Due.ARGUMENT, x -> x.limit(1, 0, 60));
        throwing("limit(1, 5, 60)", Due.ARGUMENT, x -> x.limit(1, 5, 60));
    }

    private static void promise08ChangesNothingWhenItThrows() {
        throwing("crew(4, ..)", Due.ARGUMENT, x -> x.crew(4, 0, 0, 0, 0));
        throwing("crew(0, 5, ..)", Due.ARGUMENT, x -> x.crew(0, 5, 0, 0, 0));
        throwing("crew(0, 1, 100, ..)", Due.ARGUMENT, x -> x.crew(0, 1, 100, 0, 0));
        throwing("crew(0, 1, 9, 8, ..)", Due.ARGUMENT, x -> x.crew(0, 1, 9, 8, 0));
        throwing("crew(0, 1, 9, 0, 20001)", Due.ARGUMENT, x -> x.crew(0, 1, 9, 0, 20001));
        throwing("crew(3, 1, 9, 0, 20001), not there", Due.ARGUMENT, x -> x.crew(3, 1, 9, 0, 20001));
    }

    private static void promise09ChangesNothingWhenItThrows() {
        throwing("off(4, 0, 20160)", Due.ARGUMENT, x -> x.off(4, 0, 20160));
        throwing("off(0, 0, 20161)", Due.ARGUMENT, x -> x.off(0, 0, 20161));
        throwing("off(0, -1, 20160)", Due.ARGUMENT, x -> x.off(0, -1, 20160));
        throwing("off(3, 0, 20160), not there", Due.ELEMENT, x -> x.off(3, 0, 20160));
    }

    private static void promise11ChangesNothingWhenItThrows() {
        throwing("chain(12)", Due.ARGUMENT, x -> x.chain(12));
        throwing("chain(-1)", Due.ARGUMENT, x -> x.chain(-1));
    }

    private static void promise12And13ChangeNothingWhenTheyThrow() {
        throwing("check(4)", Due.ARGUMENT, x -> x.check(4));
        throwing("check(3)", Due.ELEMENT, x -> x.check(3));
        throwing("span(5)", Due.ARGUMENT, x -> x.span(5));
    }

    private static void promise15To20ChangeNothingWhenTheyThrow() {
        throwing("pairing(40, 0)", Due.ELEMENT, x -> x.pairing(40, 0));
        throwing("pairing(0, 8)", Due.ELEMENT, x -> x.pairing(0, 8));
        throwing("covers(-1)", Due.ELEMENT, x -> x.covers(-1));
        throwing("owner(-1)", Due.ELEMENT, x -> x.owner(-1));
    }

    private static void promise18ChangesNothingWhenItThrows() {
        throwing("bid(4, ..)", Due.ARGUMENT, x -> x.bid(4, 0, 0, 1));
        throwing("bid(0, 3, ..)", Due.ARGUMENT, x -> x.bid(0, 3, 0, 1));
        throwing("bid(0, 0, 12, 1)", Due.ARGUMENT, x -> x.bid(0, 0, 12, 1));
        throwing("bid(0, 1, 5, 1)", Due.ARGUMENT, x -> x.bid(0, 1, 5, 1));
        throwing("bid(0, 2, 14, 1)", Due.ARGUMENT, x -> x.bid(0, 2, 14, 1));
        throwing("bid(0, 2, 13, 1001)", Due.ARGUMENT, x -> x.bid(0, 2, 13, 1001));
        throwing("bid(3, ..), not there", Due.ELEMENT, x -> x.bid(3, 2, 13, 1));
        throwing("bid(1, ..), a seventh one", Due.STATE, x -> x.bid(1, 2, 13, 1000));
    }

    /** award() throws only where there are neither cover nor awards: pairings stay. */
    private static void promise19ChangesNothingWhenItThrows() {
        CrewOffice x = Scene.twoFlights(100, 200, 300, 400);
        x.pairings();
        due.fails("award()", Due.STATE, x::award);
        due.equal("look(3)", x.look(3), 1);
        due.equal("look(4)", x.look(4), -1);
        due.equal("cover()", x.cover(), 390);
    }

    private static void promise21To23ChangeNothingWhenTheyThrow() {
        throwing("score(4)", Due.ARGUMENT, x -> x.score(4));
        throwing("score(3)", Due.ELEMENT, x -> x.score(3));
        throwing("local(5, 0)", Due.ARGUMENT, x -> x.local(5, 0));
        throwing("local(0, 20161)", Due.ARGUMENT, x -> x.local(0, 20161));
        throwing("look(6)", Due.ARGUMENT, x -> x.look(6));
        throwing("look(-1)", Due.ARGUMENT, x -> x.look(-1));
    }

    private static void looks(CrewOffice x, String what, int... want) {
        for (int k = 0; k < want.length; k++) {
            due.equal("look(" + k + "), " + what, x.look(k), want[k]);
        }
    }

    /** "3 pairings listed (-1: none are), 4 pairings in the cover (-1: none is taken), 5 those awarded" */
    private static void promise23TellsEachState() {
        CrewOffice x = Scene.star(1, 2);
        x.crew(3, 0, 9, 7, 0);
        Scene.chain(x, 0, 1, 9, 9);
        looks(x, "nothing listed", 3, 2, 4, -1, -1, 0);
        x.pairings();
        looks(x, "listed", 3, 2, 4, 2, -1, 0);
        x.cover();
        looks(x, "taken", 3, 2, 4, 2, 2, 0);
        x.award();
        looks(x, "awarded", 3, 2, 4, 2, 2, 2);
        x.bid(0, 0, 0, 0);
        looks(x, "behind a bid", 3, 2, 4, 2, 2, 0);
        x.award();
        looks(x, "awarded again", 3, 2, 4, 2, 2, 2);
        x.drop(2);
        looks(x, "behind a drop", 2, 2, 4, -1, -1, 0);
    }

    /** None listed, and an empty list; no cover, and an empty one. */
    private static void promise23TellsNoneFromEmpty() {
        CrewOffice x = new CrewOffice();
        looks(x, "new", 0, 0, 0, -1, -1, 0);
        x.pairings();
        looks(x, "an empty list", 0, 0, 0, 0, -1, 0);
        x.cover();
        looks(x, "an empty cover", 0, 0, 0, 0, 0, 0);
        x.award();
        looks(x, "an empty cover awarded", 0, 0, 0, 0, 0, 0);
        x.flight(0, 0, 1, 100, 200, 0);
        x.pairings();
        x.cover();
        looks(x, "an empty list, and no cover", 1, 0, 0, 0, -1, 0);
    }

    /** As many as can be: 12 flights, 4 crews, 8 in the chain. */
    private static void promise23TellsFull() {
        CrewOffice x = Scene.days(6);
        for (int crew = 0; crew < 4; crew++) {
            x.crew(crew, 0, crew, 7, 0);
        }
        Scene.chain(x, 0, 1, 2, 3, 4, 5, 6, 7);
        x.pairings();
        x.cover();
        x.award();
        looks(x, "full", 12, 4, 8, 6, 6, 6);
    }

    /** "Throws IllegalArgumentException for another what." */
    private static void promise23RefusesAnotherWhat() {
        CrewOffice x = Scene.awarded();
        for (int what : Scene.outside(0, 5)) {
            due.fails("look(" + what + ")", Due.ARGUMENT, () -> x.look(what));
        }
    }
}
