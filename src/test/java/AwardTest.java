/** Promises 18 to 21: bids, awards, owners and scores. */
final class AwardTest {
    private static final Due due = new Due("AwardTest");

    public static void main(String[] args) {
        due.runAll(AwardTest.class);
    }

    private static void taken(CrewOffice x, int pairings) {
        due.equal("pairings()", x.pairings(), pairings);
        due.equal("cover()", x.cover(), 390 * pairings);
    }

    private static void awarded(CrewOffice x, String what, int... owners) {
        due.equal("award(), " + what, x.award(), true);
        holds(x, what, owners);
    }

    private static void takenAndAwarded(CrewOffice x, String what, int... owners) {
        taken(x, owners.length);
        awarded(x, what, owners);
    }

    private static void takenAndRefused(CrewOffice x, String what, int pairings) {
        taken(x, pairings);
        due.equal("award(), " + what, x.award(), false);
        due.equal("look(5), " + what, x.look(5), 0);
    }

    private static void holds(CrewOffice x, String what, int... owners) {
        int count = 0;
        for (int i = 0; i < owners.length; i++) {
            due.equal("owner(" + i + "), " + what, x.owner(i), owners[i]);
            count += owners[i] >= 0 ? 1 : 0;
        }
        due.equal("look(5), " + what, x.look(5), count);
    }

    /** "A bid more of a crew: how many it has." */
    private static void promise18TellsHowManyItHas() {
        CrewOffice x = new CrewOffice();
        x.crew(0, 0, 0, 7, 0);
        x.crew(3, 0, 0, 7, 0);
        for (int k = 1; k <= 6; k++) {
            due.equal("bid of crew 0", x.bid(0, k % 3, k % 2, k), k);
            due.equal("bid of crew 3", x.bid(3, 2, 0, 0), k);
        }
    }

    /** "BIDS, at most 6 of a crew": "IllegalStateException when it has 6" */
    private static void promise18RefusesASeventh() {
        CrewOffice x = new CrewOffice();
        x.crew(1, 0, 0, 7, 0);
        x.crew(2, 0, 0, 7, 0);
        for (int k = 0; k < 6; k++) {
            x.bid(1, 2, k, 1);
        }
        due.fails("a seventh one", Due.STATE, () -> x.bid(1, 2, 9, 100));
        due.equal("score(1)", x.score(1), 6);
        due.fails("a seventh one of kind 3", Due.ARGUMENT, () -> x.bid(1, 3, 0, 0));
        due.fails("a seventh one of weight 1001", Due.ARGUMENT, () -> x.bid(1, 0, 0, 1001));
        due.equal("a first one of another crew", x.bid(2, 2, 9, 100), 1);
        x.crew(1, 0, 0, 7, 0);
        due.equal("a first one of a new crew", x.bid(1, 2, 9, 100), 1);
    }

    /** "Throws IllegalArgumentException when crew is not 0 .. 3" */
    private static void promise18RefusesACrew() {
        CrewOffice x = new CrewOffice();
        for (int crew : Scene.outside(0, 3)) {
            due.fails("bid(" + crew + ", ..)", Due.ARGUMENT, () -> x.bid(crew, 0, 0, 0));
        }
    }

    /** "kind not 0 .. 2" */
    private static void promise18RefusesAKind() {
        CrewOffice x = new CrewOffice();
        x.crew(1, 0, 0, 7, 0);
        for (int kind : Scene.outside(0, 2)) {
            due.fails("bid(1, " + kind + ", ..)", Due.ARGUMENT, () -> x.bid(1, kind, 0, 0));
            due.fails("bid(0, " + kind + ", ..), no crew", Due.ARGUMENT, () -> x.bid(0, kind, 0, 0));
        }
        due.equal("a first bid", x.bid(1, 0, 0, 0), 1);
    }

    private static void argument(int kind, int most) {
        CrewOffice x = new CrewOffice();
        x.crew(1, 0, 0, 7, 0);
        for (int arg : Scene.outside(0, most)) {
            due.fails("bid(1, " + kind + ", " + arg + ", 0)", Due.ARGUMENT, () -> x.bid(1, kind, arg, 0));
            due.fails("bid(0, " + kind + ", " + arg + ", 0), no crew", Due.ARGUMENT, () -> x.bid(0, kind, arg, 0));
        }
        due.equal("bid(1, " + kind + ", 0, 0)", x.bid(1, kind, 0, 0), 1);
        due.equal("bid(1, " + kind + ", " + most + ", 0)", x.bid(1, kind, most, 0), 2);
    }

    /** "arg no flight 0 .. 11": it need not be there */
    private static void promise18RefusesAFlight() {
        argument(0, 11);
    }

    /** "station" */
    private static void promise18RefusesAStation() {
        argument(1, 4);
    }

    /** "day": "a day 0 .. 13" */
    private static void promise18RefusesADay() {
        argument(2, 13);
    }

    /** "or weight out of its bounds": "weights -1000 .. 1000" */
    private static void promise18RefusesAWeight() {
        for (int k = 0; k < 3; k++) {
            int kind = k;
            CrewOffice x = new CrewOffice();
            x.crew(1, 0, 0, 7, 0);
            for (int weight : Scene.outside(-1000, 1000)) {
                due.fails("bid of weight " + weight, Due.ARGUMENT, () -> x.bid(1, kind, 0, weight));
                due.fails("bid of weight " + weight + ", no crew", Due.ARGUMENT, () -> x.bid(0, kind, 0, weight));
            }
            due.equal("bid of weight -1000", x.bid(1, kind, 0, -1000), 1);
            due.equal("score(1)", x.score(1), kind == 2 ? -1000 : 0);
            due.equal("bid of weight 1000", x.bid(1, kind, 0, 1000), 2);
            due.equal("score(1)", x.score(1), 0);
        }
    }

    /** "NoSuchElementException when it is not there" */
    private static void promise18RefusesACrewThatIsNotThere() {
        CrewOffice x = new CrewOffice();
        x.crew(1, 0, 0, 7, 0);
        for (int k : new int[] {0, 2, 3}) {
            int crew = k;
            due.fails("bid(" + crew + ", ..)", Due.ELEMENT, () -> x.bid(crew, 0, 0, 0));
        }
    }

    /** "(No awards are left.)": but the pairings, and the cover */
    private static void promise18LeavesNoAwards() {
        CrewOffice x = Scene.days(2);
        x.crew(0, 0, 5, 7, 0);
        x.crew(1, 0, 4, 7, 0);
        takenAndAwarded(x, "all to the first", 0, 0);
        x.bid(1, 2, 9, 3);
        holds(x, "a bid leaves no awards", -1, -1);
        due.equal("look(3)", x.look(3), 2);
        due.equal("look(4)", x.look(4), 2);
        due.equal("covers(1)", x.covers(1), true);
        awarded(x, "again", 0, 0);
    }

    /** A bid that throws leaves the awards. */
    private static void promise18LeavesAwardsWhenItThrows() {
        CrewOffice x = Scene.days(2);
        x.crew(0, 0, 5, 7, 0);
        for (int k = 0; k < 6; k++) {
            x.bid(0, 2, k, 1);
        }
        takenAndAwarded(x, "all to the first", 0, 0);
        due.fails("a wrong bid", Due.ARGUMENT, () -> x.bid(0, 3, 0, 0));
        holds(x, "behind a wrong bid", 0, 0);
        due.fails("a bid of no crew", Due.ELEMENT, () -> x.bid(2, 0, 0, 0));
        holds(x, "behind a bid of no crew", 0, 0);
        due.fails("a seventh bid", Due.STATE, () -> x.bid(0, 0, 0, 0));
        holds(x, "behind a seventh bid", 0, 0);
    }

    /** "(of an empty one true, without crews, too)" */
    private static void promise19IsTrueOfAnEmptyCover() {
        CrewOffice x = new CrewOffice();
        x.pairings();
        x.cover();
        due.equal("award() without crews", x.award(), true);
        due.equal("look(5)", x.look(5), 0);
        due.equal("look(4)", x.look(4), 0);
        x.crew(0, 0, 0, 0, 20000);
        x.pairings();
        x.cover();
        due.equal("award() with a crew that may work nothing", x.award(), true);
        due.equal("look(5)", x.look(5), 0);
    }

    /** "Throws IllegalStateException when no cover is taken": in every state without one */
    private static void promise19RefusesWithoutACover() {
        CrewOffice x = Scene.twoFlights(100, 200, 300, 400);
        due.fails("award(), nothing listed", Due.STATE, x::award);
        x.pairings();
        due.fails("award(), nothing taken", Due.STATE, x::award);
        x.cover();
        due.equal("award()", x.award(), true);
        x.pairings();
        due.fails("award(), listed again", Due.STATE, x::award);
        x.cover();
        x.off(0, 0, 0);
        due.fails("award(), emptied", Due.STATE, x::award);
        x.flight(5, 3, 4, 100, 200, 0);
        x.pairings();
        due.equal("cover()", x.cover(), -1);
        due.fails("award(), there is no cover", Due.STATE, x::award);
    }

    /** "Awards the cover": what is listed, but not in it, is awarded to nobody; again is as before */
    private static void promise19AwardsTheCoverAlone() {
        CrewOffice x = Scene.shuttle(4, 50, 50);
        due.equal("pairings()", x.pairings(), 4);
        x.cover();
        for (int k = 0; k < 2; k++) {
            due.equal("award()", x.award(), true);
            int count = 0;
            for (int i = 0; i < 4; i++) {
                due.equal("owner(" + i + ")", x.owner(i), x.covers(i) ? 0 : -1);
                count += x.covers(i) ? 1 : 0;
            }
            due.equal("look(5)", x.look(5), count);
            due.equal("look(4)", x.look(4), count);
        }
    }

    /** "crews by falling rank" */
    private static void promise19GoesByFallingRank() {
        CrewOffice x = Scene.days(3);
        x.crew(0, 0, 1, 7, 0);
        x.crew(1, 0, 9, 7, 0);
        x.crew(3, 0, 5, 7, 0);
        x.bid(0, 0, 0, 50);
        x.bid(1, 0, 0, 20);
        x.bid(1, 0, 2, -20);
        x.bid(1, 0, 4, -20);
        x.bid(3, 0, 0, 70);
        x.bid(3, 0, 5, -1);
        takenAndAwarded(x, "by rank", 1, 3, 0);
        due.equal("score(1)", x.score(1), 20);
        due.equal("score(3)", x.score(3), 0);
        due.equal("score(0)", x.score(0), 0);
    }

    /** "crews by falling rank": in whatever order of their numbers */
    private static void promise19GoesByRankInEachOrder() {
        int[][] orders = {{0, 1, 2, 3}, {3, 2, 1, 0}, {1, 3, 0, 2}, {2, 0, 3, 1}, {0, 3, 1, 2}, {3, 0, 2, 1}};
        for (int[] order : orders) {
            CrewOffice x = Scene.days(4);
            for (int k = 0; k < 4; k++) {
                // no more than one each
                x.crew(order[k], 0, 99 - 33 * k, 7, 6000 - 240);
            }
            takenAndAwarded(x, "the first gets the first", order);
        }
    }

    /** "of equal ones by number" */
    private static void promise19GoesByNumberForEqualRanks() {
        CrewOffice x = Scene.days(4);
        for (int crew = 3; crew >= 0; crew--) {
            x.crew(crew, 0, 7, 7, 6000 - 240);
        }
        takenAndAwarded(x, "all of rank 7", 0, 1, 2, 3);
        x.crew(1, 0, 8, 7, 6000 - 240);
        x.crew(3, 0, 8, 7, 6000 - 240);
        takenAndAwarded(x, "1 and 3 of rank 8", 1, 3, 0, 2);
    }

    /** "each of it breaks no rule for it (the base, too)" */
    private static void promise19KeepsToTheBase() {
        CrewOffice x = new CrewOffice();
        x.rule(6, 1);
        x.flight(0, 0, 1, 480, 600, 0);
        x.flight(1, 1, 0, 660, 780, 0);
        x.flight(2, 1, 0, 3360, 3480, 0);
        x.flight(3, 0, 1, 3540, 3660, 0);
        x.crew(0, 0, 5, 7, 0);
        x.crew(1, 1, 9, 7, 0);
        takenAndAwarded(x, "one each", 0, 1);
        x.crew(2, 0, 99, 7, 0);
        takenAndAwarded(x, "one each, but nothing for crew 0", 2, 1);
        x.crew(1, 4, 9, 7, 0);
        x.crew(3, 1, 0, 0, 0);
        takenAndRefused(x, "at base 1 is one that may fly nothing", 2);
    }

    /** "each of it breaks no rule for it": 10, a type */
    private static void promise19KeepsToTypes() {
        CrewOffice x = Scene.days(2);
        x.flight(3, 1, 0, 2100, 2220, 1);
        x.crew(0, 0, 9, 5, 0);
        x.crew(1, 0, 5, 3, 0);
        takenAndAwarded(x, "the first may not fly type 1", 0, 1);
        x.crew(1, 0, 5, 2, 0);
        takenAndRefused(x, "the second may not fly type 0", 2);
        x.crew(0, 0, 9, 3, 0);
        takenAndAwarded(x, "the first may", 0, 0);
    }

    /** "each of it breaks no rule for it": 11, a time off; the pairings are from 420 and 1860 to before 810 and 2250 */
    private static void promise19KeepsToTimesOff() {
        CrewOffice x = Scene.days(2);
        x.crew(1, 0, 9, 7, 0);
        x.crew(2, 0, 5, 7, 0);
        x.off(1, 0, 420);
        x.off(2, 0, 20160);
        takenAndAwarded(x, "off to before its beginning", 1, 1);
        x.off(1, 0, 421);
        takenAndRefused(x, "both are off", 2);
        x.off(2, 810, 1861);
        takenAndAwarded(x, "the second one for the first day", 2, 1);
        x.off(2, 809, 811);
        takenAndRefused(x, "both are off on the first day", 2);
    }

    /** "each of it breaks no rule for it": 12, minutes flown before; a pairing has 240 in the air */
    private static void promise19KeepsToMinutesFlown() {
        CrewOffice x = Scene.days(1);
        x.crew(0, 0, 9, 7, 5761);
        x.crew(1, 0, 5, 7, 5760);
        takenAndAwarded(x, "the first has a minute too many", 1);
        x.crew(0, 0, 9, 7, 5760);
        takenAndAwarded(x, "the first has not", 0);
        x.crew(0, 0, 9, 7, 5761);
        x.crew(1, 0, 5, 7, 5761);
        takenAndRefused(x, "both have a minute too many", 1);
    }

    /** "all minutes in the air and those flown before are at most FLYING" */
    private static void promise19KeepsToFlyingInAll() {
        CrewOffice x = Scene.days(3);
        x.crew(0, 0, 9, 7, 5281);
        x.crew(1, 0, 5, 7, 5520);
        takenAndAwarded(x, "719 left: two of them", 0, 0, 1);
        x.crew(0, 0, 9, 7, 5280);
        takenAndAwarded(x, "720 left: all", 0, 0, 0);
        x.rule(10, 5519);
        x.crew(1, 0, 5, 7, 0);
        takenAndAwarded(x, "239 left: none", 1, 1, 1);
    }

    /** "at most FLYING, if it gets any": who has flown more gets nothing, and the others all */
    private static void promise19GivesNothingToWhoHasFlownMore() {
        CrewOffice x = Scene.days(3);
        x.crew(0, 0, 9, 7, 20000);
        x.crew(1, 0, 5, 7, 5280);
        x.crew(2, 0, 1, 7, 20000);
        takenAndAwarded(x, "one between two that have flown 20000", 1, 1, 1);
        x.crew(1, 0, 5, 7, 5281);
        takenAndRefused(x, "a minute too many", 3);
    }

    /** Pairings from 420 to 810 and, on the same day, from a minute to 1630; each of one duty. */
    private static CrewOffice twoOnADay(int begins, boolean turned) {
        CrewOffice x = new CrewOffice();
        x.rule(6, 1);
        int first = turned ? 2 : 0;
        x.flight(first, 0, 1, 480, 600, 0);
        x.flight(first + 1, 1, 0, 660, 780, 0);
        x.flight(2 - first, 0, 1, begins + 60, 1500, 0);
        x.flight(3 - first, 1, 0, 1550, 1600, 0);
        x.crew(0, 0, 9, 7, 0);
        x.crew(1, 0, 5, 7, 0);
        return x;
    }

    private static void rested(CrewOffice x, String what, int... owners) {
        due.equal("pairings()", x.pairings(), 2);
        x.cover();
        awarded(x, what, owners);
    }

    /** "of two of them the later begins REST or more behind the end of the other": the earlier is the lesser one, or not */
    private static void promise19KeepsToRests() {
        for (boolean turned : new boolean[] {false, true}) {
            rested(twoOnADay(1409, turned), "599 between", 0, 1);
            rested(twoOnADay(1410, turned), "600 between", 0, 0);
            CrewOffice more = twoOnADay(1410, turned);
            more.rule(4, 601);
            rested(more, "600 between, REST 601", 0, 1);
            CrewOffice none = twoOnADay(1409, turned);
            none.rule(4, 0);
            rested(none, "599 between, REST 0", 0, 0);
        }
    }

    /** Each award looks at the pairings as they are now: too near before, and far enough now, and the other way round. */
    private static void promise19KeepsToRestsOfNow() {
        CrewOffice x = twoOnADay(1409, false);
        rested(x, "599 between", 0, 1);
        x.move(2, 1);
        rested(x, "600 between, behind an award with 599", 0, 0);
        x.move(2, -1);
        rested(x, "599 between, behind an award with 600", 0, 1);
    }

    /** "of two of them the later": of two at once neither is, and they are not for one crew, with REST 0, too */
    private static void promise19KeepsTwoAtOnceApart() {
        // where the second one begins and ends beside the first one, from 420 to 810
        int[][] besides = {{0, 0}, {0, 5}, {5, 0}, {5, 5}, {-5, 5}, {5, -5}, {-5, 0}, {0, -5}};
        for (int[] beside : besides) {
            CrewOffice x = new CrewOffice();
            x.rule(4, 0);
            x.flight(0, 0, 1, 480, 600, 0);
            x.flight(1, 1, 0, 660, 780, 0);
            x.flight(2, 0, 2, 480 + beside[0], 600, 0);
            x.flight(3, 2, 0, 660, 780 + beside[1], 0);
            x.crew(0, 0, 9, 7, 0);
            due.equal("pairings()", x.pairings(), 2);
            x.cover();
            due.equal("award() to one crew, " + beside[0] + " and " + beside[1], x.award(), false);
            x.crew(1, 0, 5, 7, 0);
            rested(x, "to two crews, " + beside[0] + " and " + beside[1], 0, 1);
        }
    }

    /** "REST or more behind": nothing between is enough for REST 0; a minute in both is not */
    private static void promise19KeepsToRestsOfNothing() {
        for (int first : new int[] {0, 2}) {
            int second = 2 - first;
            CrewOffice x = new CrewOffice();
            x.rule(4, 0);
            x.limit(1, 4, 60);
            x.flight(first, 0, 1, 480, 600, 0);
            x.flight(first + 1, 1, 0, 660, 780, 0);
            x.flight(second, 0, 2, 870, 900, 0);
            x.flight(second + 1, 2, 0, 930, 1000, 0);
            x.crew(0, 0, 9, 7, 0);
            x.crew(1, 0, 5, 7, 0);
            rested(x, "from 420 to 810 and from 810 on", 0, 0);
            x.move(second, -1);
            rested(x, "from 420 to 810 and from 809 on", 0, 1);
            x.move(second, 1);
            x.rule(4, 1);
            rested(x, "from 420 to 810 and from 810 on, REST 1", 0, 1);
        }
    }

    /** "and the crews behind can be given all that is left": the first one must work what nobody else may */
    private static void promise19LeavesWhatOthersCanWork() {
        CrewOffice x = Scene.days(3);
        x.flight(3, 1, 0, 2100, 2220, 1);
        x.crew(0, 0, 9, 7, 0);
        x.crew(1, 0, 5, 5, 0);
        x.crew(2, 0, 3, 3, 0);
        x.off(2, 0, 20160);
        x.bid(0, 0, 3, -1000);
        x.bid(0, 1, 1, -1);
        takenAndAwarded(x, "the first must work the second day", 1, 0, 1);
        due.equal("score(0)", x.score(0), -1001);
        x.off(2, 0, 0);
        takenAndAwarded(x, "crew 2 can", 1, 2, 1);
        due.equal("score(0)", x.score(0), 0);
        x.bid(1, 0, 0, -1);
        awarded(x, "crew 2 can work the first day, too", 2, 2, 1);
    }

    /** "likewise": a crew behind keeps to its rests, too, so the first one must take one of two at once */
    private static void promise19LeavesTheOthersTheirRests() {
        CrewOffice x = new CrewOffice();
        x.flight(0, 0, 1, 480, 600, 0);
        x.flight(1, 1, 0, 660, 780, 0);
        x.flight(2, 0, 2, 480, 600, 0);
        x.flight(3, 2, 0, 660, 780, 0);
        x.crew(1, 0, 5, 7, 0);
        x.crew(2, 0, 9, 7, 0);
        x.bid(2, 1, 0, -10);
        takenAndAwarded(x, "the least of equal ones", 2, 1);
        x.bid(2, 1, 1, -1);
        awarded(x, "the better one", 1, 2);
        due.equal("score(2)", x.score(2), -10);
        x.crew(0, 0, 0, 7, 0);
        takenAndAwarded(x, "the two crews behind can", 1, 0);
        due.equal("score(2)", x.score(2), 0);
    }

    /** "likewise": a crew behind keeps to FLYING in all, to its base and its time off */
    private static void promise19LeavesTheOthersTheirRules() {
        CrewOffice x = Scene.days(3);
        x.crew(0, 0, 9, 7, 0);
        x.bid(0, 1, 1, -10);
        x.crew(1, 0, 5, 7, 5280);
        takenAndAwarded(x, "all to the second", 1, 1, 1);
        x.crew(1, 0, 5, 7, 5281);
        takenAndAwarded(x, "two at most to the second", 0, 1, 1);
        x.crew(2, 1, 3, 7, 0);
        takenAndAwarded(x, "a third one at another base", 0, 1, 1);
        x.crew(2, 0, 3, 7, 0);
        takenAndAwarded(x, "a third one at this base", 1, 1, 2);
        x.off(2, 3700 - 1440, 3700);
        takenAndAwarded(x, "a third one that is off on the third day", 1, 2, 1);
    }

    /** "of these the one of the greatest score": what it may get, not what it would like most */
    private static void promise19TakesTheGreatestScore() {
        CrewOffice x = Scene.days(3);
        x.crew(0, 0, 9, 7, 6000 - 480);
        x.crew(1, 0, 5, 7, 0);
        x.bid(0, 0, 0, 5);
        x.bid(0, 0, 2, 6);
        x.bid(0, 0, 4, 7);
        takenAndAwarded(x, "two of three: 13", 1, 0, 0);
        due.equal("score(0)", x.score(0), 13);
        x.bid(0, 0, 1, 3);
        awarded(x, "two of three: 8 and 7", 0, 1, 0);
        due.equal("score(0)", x.score(0), 15);
        x.bid(0, 2, 0, 1000);
        awarded(x, "the first day free", 1, 0, 0);
        due.equal("score(0)", x.score(0), 1013);
        x.bid(0, 2, 2, 1000);
        awarded(x, "the first and the third day free", 1, 0, 1);
        due.equal("score(0)", x.score(0), 2006);
    }

    /** "the greatest score": nothing, of 0, is more than something below 0 */
    private static void promise19GivesNothingRatherThanLess() {
        CrewOffice x = Scene.days(2);
        x.crew(0, 0, 9, 7, 0);
        x.crew(1, 0, 5, 7, 0);
        x.bid(0, 1, 0, -1);
        takenAndAwarded(x, "nothing to the first", 1, 1);
        x.crew(1, 0, 5, 0, 0);
        takenAndAwarded(x, "but all, when nobody else may", 0, 0);
        due.equal("score(0)", x.score(0), -2);
    }

    /** "of equal ones the one with the least pairing by which two of them differ" */
    private static void promise19TakesTheLeastOfEqualSets() {
        CrewOffice x = Scene.days(4);
        x.crew(0, 0, 9, 7, 0);
        x.crew(1, 0, 5, 7, 0);
        takenAndAwarded(x, "no bids: all to the first", 0, 0, 0, 0);
        x.crew(0, 0, 9, 7, 6000 - 480);
        takenAndAwarded(x, "two at most: the least ones", 0, 0, 1, 1);
        x.bid(0, 0, 7, 5);
        awarded(x, "the last one, and the least of the others", 0, 1, 1, 0);
        x.bid(0, 0, 0, -5);
        awarded(x, "the last one, and the second", 1, 0, 1, 0);
        x.bid(0, 0, 6, -10);
        awarded(x, "the second and the third", 1, 0, 0, 1);
    }

    /** "Nobody gets anything if the first one has none such" */
    private static void promise19GivesNobodyAnything() {
        CrewOffice x = Scene.days(3);
        x.flight(4, 0, 1, 3360, 3480, 2);
        x.crew(0, 0, 9, 3, 0);
        x.crew(1, 0, 5, 3, 0);
        x.bid(0, 2, 4, 9);
        takenAndRefused(x, "a type that nobody flies", 3);
        holds(x, "nobody gets anything", -1, -1, -1);
        due.equal("look(4)", x.look(4), 3);
        due.equal("covers(0)", x.covers(0), true);
        due.equal("score(0), of nothing", x.score(0), 9);
        due.equal("award() again", x.award(), false);
        x.crew(1, 0, 5, 4, 0);
        takenAndRefused(x, "crew 1 flies no type 0", 3);
        x.crew(1, 0, 5, 5, 0);
        takenAndAwarded(x, "now it does", 0, 0, 1);
    }

    /** "Nobody gets anything": two at once, and only one crew */
    private static void promise19GivesNobodyTwoAtOnce() {
        CrewOffice x = Scene.days(2);
        x.crew(0, 0, 9, 7, 0);
        x.flight(2, 0, 1, 481, 600, 0);
        x.flight(3, 1, 0, 660, 781, 0);
        due.equal("pairings()", x.pairings(), 4);
        due.equal("cover()", x.cover(), 780);
        due.equal("award() to one crew", x.award(), false);
        due.equal("look(5)", x.look(5), 0);
        x.crew(3, 0, 99, 7, 0);
        x.pairings();
        x.cover();
        awarded(x, "to two crews", 3, -1, -1, 0);
    }

    /** Four crews for four pairings at once, and none for a fifth. */
    private static void promise19GivesFourAtOnce() {
        CrewOffice x = Scene.star(1, 4);
        for (int crew = 0; crew < 4; crew++) {
            x.crew(crew, 0, 10 + crew, 7, 0);
        }
        due.equal("pairings()", x.pairings(), 4);
        x.cover();
        awarded(x, "four at once", 3, 2, 1, 0);
        x.flight(5, 1, 0, 500, 554, 0);
        due.equal("pairings()", x.pairings(), 5);
        x.cover();
        due.equal("award(), five at once", x.award(), false);
        due.equal("look(5), five at once", x.look(5), 0);
    }

    /** "The crew to which pairing i was awarded; -1 for none": in each state */
    private static void promise20IsNoneWithoutAwards() {
        CrewOffice x = Scene.days(2);
        x.crew(2, 0, 9, 7, 0);
        x.pairings();
        due.equal("owner(0), listed", x.owner(0), -1);
        due.equal("owner(1), listed", x.owner(1), -1);
        x.cover();
        due.equal("owner(0), taken", x.owner(0), -1);
        x.award();
        due.equal("owner(0), awarded", x.owner(0), 2);
        due.equal("owner(1), awarded", x.owner(1), 2);
        x.cover();
        due.equal("owner(0), taken again", x.owner(0), -1);
    }

    /** "Throws .. when there is no such pairing listed." */
    private static void promise20RefusesAPairing() {
        CrewOffice x = Scene.days(3);
        x.crew(2, 0, 9, 7, 0);
        due.fails("owner(0), not listed", Due.ELEMENT, () -> x.owner(0));
        x.pairings();
        for (int i : Scene.outside(0, 2)) {
            due.fails("owner(" + i + "), listed", Due.ELEMENT, () -> x.owner(i));
        }
        x.cover();
        x.award();
        for (int i : Scene.outside(0, 2)) {
            due.fails("owner(" + i + "), awarded", Due.ELEMENT, () -> x.owner(i));
        }
        due.equal("owner(2)", x.owner(2), 2);
        x.crew(2, 0, 9, 7, 0);
        due.fails("owner(0), listed no more", Due.ELEMENT, () -> x.owner(0));
    }

    /** "(of nothing, without awards)": 0, but for days, all of which are free */
    private static void promise21IsThatOfNothing() {
        CrewOffice x = Scene.days(1);
        x.crew(2, 0, 0, 7, 0);
        due.equal("score without bids", x.score(2), 0);
        x.bid(2, 0, 0, 1);
        x.bid(2, 1, 1, 10);
        due.equal("score of nothing", x.score(2), 0);
        x.bid(2, 2, 0, 100);
        x.bid(2, 2, 13, -1000);
        x.bid(2, 2, 13, -1000);
        due.equal("score of nothing, but days", x.score(2), -1900);
        taken(x, 1);
        due.equal("score before the award", x.score(2), -1900);
        x.award();
        due.equal("score of all", x.score(2), 1 + 10 - 2000);
        x.pairings();
        due.equal("score, no awards are left", x.score(2), -1900);
    }

    /** A crew that was awarded nothing, while others were. */
    private static void promise21IsThatOfNothingBesideOthers() {
        CrewOffice x = Scene.days(1);
        x.crew(1, 0, 9, 7, 0);
        x.crew(2, 0, 0, 7, 0);
        x.bid(2, 0, 0, 1);
        x.bid(2, 2, 0, 100);
        x.bid(1, 2, 0, -100);
        takenAndAwarded(x, "to crew 1", 1);
        due.equal("score(2)", x.score(2), 100);
        due.equal("score(1)", x.score(1), 0);
    }

    /** "kind 0, a flight that is in one of its pairings": once, and for each bid */
    private static void promise21CountsFlights() {
        CrewOffice x = Scene.days(3);
        x.crew(2, 0, 0, 7, 0);
        x.bid(2, 0, 0, 1);
        x.bid(2, 0, 1, 10);
        x.bid(2, 0, 5, -100);
        x.bid(2, 0, 5, -100);
        x.bid(2, 0, 6, 1000);
        takenAndAwarded(x, "all to the only one", 2, 2, 2);
        due.equal("score of flights", x.score(2), -189);
    }

    /** "kind 0": the first flight and the last one by number */
    private static void promise21CountsTheFirstAndTheLastFlight() {
        CrewOffice x = Scene.days(6);
        x.crew(2, 0, 0, 7, 0);
        x.bid(2, 0, 0, 1);
        x.bid(2, 0, 11, 10);
        takenAndAwarded(x, "all to the only one", 2, 2, 2, 2, 2, 2);
        due.equal("score of flights 0 and 11", x.score(2), 11);
    }

    /** "1, a station: for each flight of its pairings that arrives there" */
    private static void promise21CountsArrivals() {
        CrewOffice x = Scene.days(3);
        x.crew(2, 0, 0, 7, 0);
        x.bid(2, 1, 0, 1);
        x.bid(2, 1, 1, 10);
        x.bid(2, 1, 2, 100);
        takenAndAwarded(x, "all to the only one", 2, 2, 2);
        due.equal("score of stations", x.score(2), 33);
        CrewOffice twice = Scene.shuttle(4, 50, 50);
        twice.bid(0, 1, 1, -1000);
        twice.bid(0, 1, 0, 1);
        twice.limit(1, 2, 60);
        due.equal("pairings(), only the long one", twice.pairings(), 1);
        twice.cover();
        awarded(twice, "the long one", 0);
        due.equal("score of a station twice in a pairing", twice.score(0), -1998);
    }

    /** "2, a day 0 .. 13: if no minute of it (1440 each) lies from a beginning to before an end of its pairings" */
    private static void promise21CountsDays() {
        CrewOffice x = new CrewOffice();
        x.crew(0, 0, 0, 7, 0);
        x.rule(9, 0);
        x.bid(0, 2, 0, 1);
        x.bid(0, 2, 1, 10);
        x.bid(0, 2, 2, 100);
        // the times between which it flies, 60 and 30 minutes within those of the pairing, and the score
        int[][] cases = {
            {0, 1410, 110}, {0, 1411, 100}, {1499, 2850, 100}, {1500, 2850, 101}, {1500, 2851, 1}, {1499, 2851, 0},
            {2940, 4300, 11}, {2939, 4300, 1}, {19000, 20160, 111}};
        for (int[] one : cases) {
            x.flight(0, 0, 1, one[0], one[0] + 100, 0);
            x.flight(1, 1, 0, one[1] - 100, one[1], 0);
            due.equal("pairings()", x.pairings(), 1);
            x.cover();
            awarded(x, "from " + one[0] + " to " + one[1], 0);
            due.equal("score of days, from " + one[0] + " to " + one[1], x.score(0), one[2]);
        }
    }

    /** "a day 0 .. 13": the last one; and days are those of the time, not of a clock */
    private static void promise21CountsTheLastDay() {
        CrewOffice x = Scene.twoFlights(18780, 18880, 20060, 20160);
        x.rule(9, 0);
        x.bid(0, 2, 13, 1);
        x.bid(0, 2, 12, 2);
        x.zone(0, -720, 20160, 0);
        x.zone(1, -720, 20160, 0);
        x.pairings();
        x.cover();
        due.equal("score before the award", x.score(0), 3);
        x.award();
        due.equal("score of the last day", x.score(0), 2);
        x.flight(0, 0, 1, 18779, 18880, 0);
        x.pairings();
        x.cover();
        x.award();
        due.equal("score, begun a minute earlier", x.score(0), 0);
    }

    /** "2, a day": several pairings of which one takes it, and a pairing of which rests take it */
    private static void promise21CountsDaysOfAllPairings() {
        CrewOffice x = Scene.days(3);
        x.crew(0, 0, 0, 7, 0);
        for (int day = 0; day < 5; day++) {
            x.bid(0, 2, day, 1 << day);
        }
        takenAndAwarded(x, "all to the only one", 0, 0, 0);
        due.equal("score of five days", x.score(0), 8 + 16);
        CrewOffice away = Scene.twoFlights(500, 600, 3500, 3600);
        for (int day = 0; day < 5; day++) {
            away.bid(0, 2, day, 1 << day);
        }
        away.pairings();
        away.cover();
        awarded(away, "a day between", 0);
        due.equal("score, away for three days", away.score(0), 8 + 16);
    }

    /** "Throws IllegalArgumentException when crew is not 0 .. 3" */
    private static void promise21RefusesACrew() {
        CrewOffice x = new CrewOffice();
        for (int crew : Scene.outside(0, 3)) {
            due.fails("score(" + crew + ")", Due.ARGUMENT, () -> x.score(crew));
        }
    }

    /** "NoSuchElementException when it is not there" */
    private static void promise21RefusesACrewThatIsNotThere() {
        CrewOffice x = new CrewOffice();
        x.crew(1, 0, 0, 7, 0);
        for (int k : new int[] {0, 2, 3}) {
            int crew = k;
            due.fails("score(" + crew + ")", Due.ELEMENT, () -> x.score(crew));
        }
        due.equal("score(1)", x.score(1), 0);
    }
}
