import java.util.NoSuchElementException;

/** Promises 18 to 21: bids, awards, owners and scores. */
final class AwardTest {
    private static final Class<IllegalArgumentException> ARGUMENT = IllegalArgumentException.class;
    private static final Class<NoSuchElementException> ELEMENT = NoSuchElementException.class;
    private static final Class<IllegalStateException> STATE = IllegalStateException.class;
    private static final int MIN = Integer.MIN_VALUE;
    private static final int MAX = Integer.MAX_VALUE;

    private static final Due due = new Due("AwardTest");

    public static void main(String[] args) {
        bid();
        bidThrows();
        bidLeavesNoAwards();
        emptyCover();
        noCrews();
        scoreOfNothing();
        scoreOfFlights();
        scoreOfStations();
        scoreOfDays();
        scoreThrows();
        byRank();
        equalScores();
        leavesWhatOthersCanWork();
        twoAtOnce();
        twoBases();
        nobodyCan();
        rulesOfACrew();
        restBetween();
        flyingInAll();
        due.end();
    }

    /** A pairing a day from station 0: flights 2 * d and 2 * d + 1, from 480 to 600 and 660 to 780 of day d. */
    private static CrewOffice days(int days) {
        CrewOffice x = new CrewOffice();
        // pairings of one duty alone
        x.rule(6, 1);
        for (int day = 0; day < days; day++) {
            x.flight(2 * day, 0, 1, day * 1440 + 480, day * 1440 + 600, 0);
            x.flight(2 * day + 1, 1, 0, day * 1440 + 660, day * 1440 + 780, 0);
        }
        return x;
    }

    private static void taken(CrewOffice x, int pairings) {
        due.equal("pairings()", x.pairings(), pairings);
        due.equal("cover()", x.cover(), 390 * pairings);
    }

    private static void awarded(CrewOffice x, String what, int... owners) {
        due.equal("award(), " + what, x.award(), true);
        holds(x, what, owners);
    }

    private static void holds(CrewOffice x, String what, int... owners) {
        int count = 0;
        for (int i = 0; i < owners.length; i++) {
            due.equal("owner(" + i + "), " + what, x.owner(i), owners[i]);
            count += owners[i] >= 0 ? 1 : 0;
        }
        due.equal("look(5), " + what, x.look(5), count);
        for (int bad : new int[] {-1, owners.length, MIN, MAX}) {
            due.fails("owner(" + bad + ")", ELEMENT, () -> x.owner(bad));
        }
    }

    private static void bid() {
        CrewOffice x = new CrewOffice();
        x.crew(1, 0, 0, 7, 0);
        x.crew(3, 0, 0, 7, 0);
        due.equal("a first bid", x.bid(1, 0, 0, -1000), 1);
        due.equal("a second one", x.bid(1, 0, 11, 1000), 2);
        due.equal("a third one", x.bid(1, 1, 0, 0), 3);
        due.equal("a fourth one", x.bid(1, 1, 4, 0), 4);
        due.equal("of another crew", x.bid(3, 2, 0, 0), 1);
        due.equal("a fifth one", x.bid(1, 2, 0, 0), 5);
        due.equal("a sixth one", x.bid(1, 2, 13, 0), 6);
        due.fails("a seventh one", STATE, () -> x.bid(1, 0, 0, 0));
        due.fails("a seventh one of kind 3", ARGUMENT, () -> x.bid(1, 3, 0, 0));
        due.equal("of another crew", x.bid(3, 2, 0, 0), 2);
        x.crew(1, 0, 0, 7, 0);
        due.equal("a first bid of a new crew", x.bid(1, 0, 0, 0), 1);
        x.pairings();
        x.bid(1, 0, 0, 0);
        due.equal("look(3) behind a bid", x.look(3), 0);
    }

    private static void bidThrows() {
        CrewOffice x = new CrewOffice();
        x.crew(1, 0, 0, 7, 0);
        for (int bad : new int[] {-1, 4, MIN, MAX}) {
            due.fails("bid of crew " + bad, ARGUMENT, () -> x.bid(bad, 0, 0, 0));
        }
        for (int bad : new int[] {-1, 3, MIN, MAX}) {
            due.fails("bid of kind " + bad, ARGUMENT, () -> x.bid(1, bad, 0, 0));
            due.fails("bid of kind " + bad + ", no crew", ARGUMENT, () -> x.bid(0, bad, 0, 0));
        }
        int[] beyond = {12, 5, 14};
        for (int k = 0; k < beyond.length; k++) {
            int kind = k;
            for (int bad : new int[] {-1, beyond[kind], MIN, MAX}) {
                due.fails("bid of kind " + kind + ", " + bad, ARGUMENT, () -> x.bid(1, kind, bad, 0));
            }
            for (int bad : new int[] {-1001, 1001, MIN, MAX}) {
                due.fails("bid of weight " + bad, ARGUMENT, () -> x.bid(1, kind, 0, bad));
                due.fails("bid of weight " + bad + ", no crew", ARGUMENT, () -> x.bid(0, kind, 0, bad));
            }
        }
        due.fails("bid of no crew", ELEMENT, () -> x.bid(0, 0, 0, 0));
        due.equal("a first bid", x.bid(1, 0, 0, 0), 1);
    }

    private static void bidLeavesNoAwards() {
        CrewOffice x = days(2);
        x.crew(0, 0, 5, 7, 0);
        x.crew(1, 0, 4, 7, 0);
        taken(x, 2);
        awarded(x, "all to the first", 0, 0);
        due.fails("a wrong bid", ARGUMENT, () -> x.bid(0, 3, 0, 0));
        due.fails("a bid of no crew", ELEMENT, () -> x.bid(2, 0, 0, 0));
        holds(x, "wrong bids change nothing", 0, 0);
        x.bid(0, 0, 0, -1);
        holds(x, "a bid leaves no awards", -1, -1);
        due.equal("look(4), but the cover", x.look(4), 2);
        awarded(x, "one of them", 1, 0);
        due.equal("score(0)", x.score(0), 0);
    }

    private static void emptyCover() {
        CrewOffice x = new CrewOffice();
        due.fails("award(), nothing listed", STATE, x::award);
        x.pairings();
        due.fails("award(), nothing taken", STATE, x::award);
        x.cover();
        due.equal("award() of an empty cover without crews", x.award(), true);
        due.equal("look(5)", x.look(5), 0);
        x.crew(0, 0, 0, 0, 20000);
        due.fails("award() behind a crew", STATE, x::award);
        x.pairings();
        x.cover();
        due.equal("award() of an empty cover", x.award(), true);
    }

    private static void noCrews() {
        CrewOffice x = days(1);
        due.equal("pairings() without crews", x.pairings(), 0);
        due.equal("cover() without crews", x.cover(), -1);
        due.fails("award() without crews", STATE, x::award);
    }

    private static void scoreOfNothing() {
        CrewOffice x = days(1);
        x.crew(2, 0, 0, 7, 0);
        due.equal("score without bids", x.score(2), 0);
        x.bid(2, 0, 0, 1);
        x.bid(2, 1, 1, 10);
        due.equal("score of nothing", x.score(2), 0);
        x.bid(2, 2, 0, 100);
        x.bid(2, 2, 13, -1000);
        x.bid(2, 2, 13, -1000);
        due.equal("score of nothing, but days", x.score(2), -1900);
    }

    private static void scoreOfFlights() {
        CrewOffice x = days(3);
        x.crew(2, 0, 0, 7, 0);
        x.bid(2, 0, 0, 1);
        x.bid(2, 0, 1, 10);
        x.bid(2, 0, 5, -100);
        x.bid(2, 0, 5, -100);
        x.bid(2, 0, 6, 1000);
        taken(x, 3);
        due.equal("score before the award", x.score(2), 0);
        awarded(x, "all to the only one", 2, 2, 2);
        due.equal("score of flights", x.score(2), -189);
        x.cover();
        due.equal("score, no awards are left", x.score(2), 0);
    }

    private static void scoreOfStations() {
        CrewOffice x = days(3);
        x.crew(2, 0, 0, 7, 0);
        x.bid(2, 1, 0, 1);
        x.bid(2, 1, 1, 10);
        x.bid(2, 1, 2, 100);
        taken(x, 3);
        awarded(x, "all to the only one", 2, 2, 2);
        due.equal("score of stations", x.score(2), 33);
    }

    private static void scoreOfDays() {
        CrewOffice x = new CrewOffice();
        x.crew(0, 0, 0, 7, 0);
        x.rule(9, 0);
        x.bid(0, 2, 0, 1);
        x.bid(0, 2, 1, 10);
        x.bid(0, 2, 2, 100);
        // the times between which it flies, 60 and 30 minutes within those of the pairing, and the score
        int[][] cases = {
            {0, 1410, 110}, {0, 1411, 100}, {1499, 2850, 100}, {1500, 2850, 101}, {1500, 2851, 1}, {1499, 2851, 0},
            {2940, 4300, 11}, {2939, 4300, 1}, {19000, 20160, 111}};
        for (int[] one : cases) {
            x.flight(0, 0, 1, one[0], one[0] + 100, 0);
            x.flight(1, 1, 0, one[1] - 100, one[1], 0);
            due.equal("pairings()", x.pairings(), 1);
            x.cover();
            awarded(x, "from " + one[0] + " to " + one[1], 0);
            due.equal("score of days, from " + one[0] + " to " + one[1], x.score(0), one[2]);
        }
        x.crew(0, 0, 0, 7, 0);
        x.bid(0, 2, 13, 1);
        x.bid(0, 2, 13, 2);
        x.pairings();
        x.cover();
        due.equal("score before the award", x.score(0), 3);
        x.award();
        due.equal("score of the last day", x.score(0), 0);
    }

    private static void scoreThrows() {
        CrewOffice x = new CrewOffice();
        x.crew(1, 0, 0, 7, 0);
        for (int bad : new int[] {-1, 4, MIN, MAX}) {
            due.fails("score(" + bad + ")", ARGUMENT, () -> x.score(bad));
        }
        due.fails("score(0), not there", ELEMENT, () -> x.score(0));
        due.equal("score(1)", x.score(1), 0);
    }

    private static void byRank() {
        CrewOffice x = days(3);
        x.crew(0, 0, 1, 7, 0);
        x.crew(1, 0, 9, 7, 0);
        x.crew(3, 0, 5, 7, 0);
        x.bid(0, 0, 0, 50);
        x.bid(1, 0, 0, 20);
        x.bid(1, 0, 2, -20);
        x.bid(1, 0, 4, -20);
        x.bid(3, 0, 0, 70);
        x.bid(3, 0, 5, -1);
        taken(x, 3);
        awarded(x, "by rank", 1, 3, 0);
        due.equal("score(1)", x.score(1), 20);
        due.equal("score(3)", x.score(3), 0);
        due.equal("score(0)", x.score(0), 0);
        CrewOffice equal = days(2);
        equal.crew(2, 0, 7, 7, 0);
        equal.crew(1, 0, 7, 7, 0);
        equal.crew(3, 0, 7, 7, 0);
        equal.crew(0, 0, 6, 7, 0);
        for (int crew = 0; crew < 4; crew++) {
            equal.bid(crew, 2, 1, 10);
        }
        taken(equal, 2);
        awarded(equal, "of equal ranks by number", 1, 0);
    }

    private static void equalScores() {
        CrewOffice x = days(4);
        x.crew(0, 0, 9, 7, 0);
        x.crew(1, 0, 5, 7, 0);
        taken(x, 4);
        awarded(x, "no bids: all to the first", 0, 0, 0, 0);
        x.crew(0, 0, 9, 7, 6000 - 480);
        taken(x, 4);
        awarded(x, "two at most: the least ones", 0, 0, 1, 1);
        x.bid(0, 0, 7, 5);
        awarded(x, "the last one, and the least of the others", 0, 1, 1, 0);
        x.bid(0, 0, 0, -5);
        awarded(x, "the last one, and the second", 1, 0, 1, 0);
        x.bid(0, 0, 6, -10);
        awarded(x, "no bid but bad ones: the second and the third", 1, 0, 0, 1);
    }

    /** The first one would like what nobody else may work to be with others. */
    private static void leavesWhatOthersCanWork() {
        CrewOffice x = days(3);
        x.flight(3, 1, 0, 2100, 2220, 1);
        x.crew(0, 0, 9, 7, 0);
        x.crew(1, 0, 5, 5, 0);
        x.crew(2, 0, 3, 3, 0);
        x.off(2, 0, 20160);
        x.bid(0, 0, 3, -1000);
        x.bid(0, 1, 1, -1);
        taken(x, 3);
        awarded(x, "the first must work the second day", 1, 0, 1);
        due.equal("score(0)", x.score(0), -1001);
        x.off(2, 0, 0);
        taken(x, 3);
        awarded(x, "crew 2 can", 1, 2, 1);
        due.equal("score(0)", x.score(0), 0);
        x.bid(1, 0, 0, -1);
        awarded(x, "crew 2 can work the first day, too", 2, 2, 1);
    }

    /** Two pairings at once: the crew behind cannot work both, so the first one must take one that it does not like. */
    private static void twoAtOnce() {
        CrewOffice x = new CrewOffice();
        x.flight(0, 0, 1, 480, 600, 0);
        x.flight(1, 1, 0, 660, 780, 0);
        x.flight(2, 0, 2, 480, 600, 0);
        x.flight(3, 2, 0, 660, 780, 0);
        x.crew(1, 0, 5, 7, 0);
        x.crew(2, 0, 9, 7, 0);
        x.bid(2, 1, 0, -10);
        taken(x, 2);
        awarded(x, "the least of equal ones", 2, 1);
        x.bid(2, 1, 1, -1);
        awarded(x, "the better one", 1, 2);
        due.equal("score(2)", x.score(2), -10);
        x.crew(0, 0, 0, 7, 0);
        taken(x, 2);
        awarded(x, "the two crews behind can", 1, 0);
        due.equal("score(2)", x.score(2), 0);
    }

    /** The same way begun at two bases: each crew works what begins at its own. */
    private static void twoBases() {
        CrewOffice x = new CrewOffice();
        x.rule(6, 1);
        x.flight(0, 0, 1, 480, 600, 0);
        x.flight(1, 1, 0, 660, 780, 0);
        x.flight(2, 1, 0, 3360, 3480, 0);
        x.flight(3, 0, 1, 3540, 3660, 0);
        x.crew(0, 0, 5, 7, 0);
        x.crew(1, 1, 9, 7, 0);
        taken(x, 2);
        awarded(x, "one each", 0, 1);
        x.crew(2, 0, 99, 7, 0);
        taken(x, 2);
        awarded(x, "one each, but nothing for crew 0", 2, 1);
    }

    private static void nobodyCan() {
        CrewOffice x = days(3);
        x.flight(4, 0, 1, 3360, 3480, 2);
        x.crew(0, 0, 9, 3, 0);
        x.crew(1, 0, 5, 3, 0);
        taken(x, 3);
        due.equal("award(), a type that nobody flies", x.award(), false);
        holds(x, "nobody gets anything", -1, -1, -1);
        due.equal("look(4)", x.look(4), 3);
        due.equal("score(0)", x.score(0), 0);
        x.bid(0, 2, 4, 9);
        due.equal("award() again", x.award(), false);
        due.equal("score(0), of nothing", x.score(0), 9);
        x.crew(1, 0, 5, 4, 0);
        taken(x, 3);
        due.equal("award(), crew 1 flies no type 0", x.award(), false);
        x.crew(1, 0, 5, 5, 0);
        taken(x, 3);
        awarded(x, "now it does", 0, 0, 1);
        CrewOffice same = days(2);
        same.crew(0, 0, 9, 7, 0);
        same.flight(2, 0, 1, 481, 600, 0);
        same.flight(3, 1, 0, 660, 781, 0);
        due.equal("pairings()", same.pairings(), 4);
        due.equal("cover()", same.cover(), 780);
        due.equal("award() of two at once to one crew", same.award(), false);
        same.crew(3, 0, 99, 7, 0);
        same.pairings();
        same.cover();
        awarded(same, "to two crews", 3, -1, -1, 0);
    }

    private static void rulesOfACrew() {
        CrewOffice x = days(2);
        x.crew(0, 1, 99, 7, 0);
        x.crew(1, 0, 9, 7, 0);
        x.off(1, 0, 420);
        x.crew(2, 0, 5, 7, 0);
        x.off(2, 809, 810);
        taken(x, 2);
        awarded(x, "not to another base's crew, nor to one that is off", 1, 1);
        x.off(1, 0, 421);
        taken(x, 2);
        due.equal("award(), both are off", x.award(), false);
        x.off(2, 810, 811);
        taken(x, 2);
        awarded(x, "the second one for the first day", 2, 1);
        x.crew(1, 0, 9, 6, 0);
        taken(x, 2);
        awarded(x, "a type", 2, 2);
        x.crew(2, 0, 5, 7, 5761);
        x.crew(1, 0, 9, 7, 5760);
        taken(x, 2);
        due.equal("award(), FLYING", x.award(), false);
    }

    private static void restBetween() {
        CrewOffice x = new CrewOffice();
        x.rule(6, 1);
        x.flight(0, 0, 1, 480, 600, 0);
        x.flight(1, 1, 0, 660, 780, 0);
        x.flight(2, 0, 1, 1469, 1500, 0);
        x.flight(3, 1, 0, 1550, 1600, 0);
        x.crew(0, 0, 9, 7, 0);
        x.crew(1, 0, 5, 7, 0);
        due.equal("pairings()", x.pairings(), 2);
        x.cover();
        awarded(x, "599 between", 0, 1);
        x.move(2, 1);
        x.pairings();
        x.cover();
        awarded(x, "600 between", 0, 0);
        x.rule(4, 601);
        x.pairings();
        x.cover();
        awarded(x, "600 between, REST 601", 0, 1);
        CrewOffice turned = new CrewOffice();
        turned.rule(6, 1);
        turned.flight(2, 0, 1, 480, 600, 0);
        turned.flight(3, 1, 0, 660, 780, 0);
        turned.flight(0, 0, 1, 1469, 1500, 0);
        turned.flight(1, 1, 0, 1550, 1600, 0);
        turned.crew(0, 0, 9, 7, 0);
        turned.crew(1, 0, 5, 7, 0);
        turned.pairings();
        turned.cover();
        awarded(turned, "599 between, the later first by number", 0, 1);
        turned.move(0, 1);
        turned.pairings();
        turned.cover();
        awarded(turned, "600 between, the later first by number", 0, 0);
    }

    private static void flyingInAll() {
        CrewOffice x = days(3);
        x.crew(0, 0, 9, 7, 5281);
        x.crew(1, 0, 5, 7, 5520);
        taken(x, 3);
        awarded(x, "719 left: two of them", 0, 0, 1);
        x.crew(0, 0, 9, 7, 5280);
        taken(x, 3);
        awarded(x, "720 left: all", 0, 0, 0);
        x.crew(0, 0, 9, 7, 20000);
        x.crew(1, 0, 5, 7, 5280);
        taken(x, 3);
        awarded(x, "nothing left: none, which it may get", 1, 1, 1);
        x.crew(1, 0, 5, 7, 5281);
        taken(x, 3);
        due.equal("award(), one too many", x.award(), false);
        x.rule(10, 20000);
        taken(x, 3);
        awarded(x, "FLYING 20000", 1, 1, 1);
    }
}
