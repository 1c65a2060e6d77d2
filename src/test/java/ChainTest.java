import java.util.NoSuchElementException;

/** Promises 10 to 13: the chain, the rules that it breaks, and what it comes to. */
final class ChainTest {
    private static final Class<IllegalArgumentException> ARGUMENT = IllegalArgumentException.class;
    private static final Class<NoSuchElementException> ELEMENT = NoSuchElementException.class;
    private static final Class<IllegalStateException> STATE = IllegalStateException.class;

    private static final Due due = new Due("ChainTest");

    public static void main(String[] args) {
        chainAndClear();
        checkThrows();
        span();
        spanAgainstTime();
        base();
        links();
        legsOfADuty();
        limits();
        limitsByBand();
        rests();
        nights();
        nightsWithAChange();
        duties();
        comesHome();
        away();
        ofACrew();
        leastFirst();
        due.end();
    }

    private static void chain(CrewOffice x, int... flights) {
        x.clear();
        for (int flight : flights) {
            x.chain(flight);
        }
    }

    /** Flights 0 -> 1 and 1 -> 0 with these times, in the chain, and a crew at 0. */
    private static CrewOffice twoFlights(int departs, int arrives, int departsBack, int arrivesBack) {
        CrewOffice x = new CrewOffice();
        x.crew(0, 0, 5, 7, 0);
        x.flight(0, 0, 1, departs, arrives, 0);
        x.flight(1, 1, 0, departsBack, arrivesBack, 0);
        chain(x, 0, 1);
        return x;
    }

    private static void both(CrewOffice x, String what, int want) {
        due.equal("check(0), " + what, x.check(0), want);
        due.equal("check(-1), " + what, x.check(-1), want);
    }

    private static void chainAndClear() {
        CrewOffice x = new CrewOffice();
        for (int k = 1; k <= 8; k++) {
            due.equal("chain of a flight that is not there", x.chain(k % 2 == 0 ? 11 : 0), k);
        }
        due.fails("a ninth flight", STATE, () -> x.chain(3));
        for (int bad : new int[] {-1, 12, Integer.MIN_VALUE, Integer.MAX_VALUE}) {
            due.fails("chain(" + bad + ") with 8", ARGUMENT, () -> x.chain(bad));
        }
        due.equal("look(2)", x.look(2), 8);
        due.equal("clear()", x.clear(), 8);
        due.equal("clear() again", x.clear(), 0);
        due.equal("look(2), empty", x.look(2), 0);
        due.fails("chain(12)", ARGUMENT, () -> x.chain(12));
        due.equal("chain(5)", x.chain(5), 1);
        x.flight(5, 0, 1, 10, 20, 0);
        x.drop(5);
        due.equal("the chain keeps a flight that is dropped", x.look(2), 1);
    }

    private static void checkThrows() {
        CrewOffice x = twoFlights(100, 200, 300, 400);
        for (int bad : new int[] {-2, 4, Integer.MIN_VALUE, Integer.MAX_VALUE}) {
            due.fails("check(" + bad + ")", ARGUMENT, () -> x.check(bad));
        }
        for (int bad : new int[] {-1, 5, Integer.MIN_VALUE, Integer.MAX_VALUE}) {
            due.fails("span(" + bad + ")", ARGUMENT, () -> x.span(bad));
        }
        due.fails("check(1), not there", ELEMENT, () -> x.check(1));
        due.equal("check(0)", x.check(0), 0);
        x.drop(1);
        due.fails("check(0) without a flight", ELEMENT, () -> x.check(0));
        due.fails("check(-1) without a flight", ELEMENT, () -> x.check(-1));
        due.fails("span(3) without a flight", ELEMENT, () -> x.span(3));
        due.fails("span(5) without a flight", ARGUMENT, () -> x.span(5));
        x.clear();
        due.fails("check(-1) of nothing", ELEMENT, () -> x.check(-1));
        due.fails("check(4) of nothing", ARGUMENT, () -> x.check(4));
        due.fails("span(2) of nothing", ELEMENT, () -> x.span(2));
        due.equal("check of one flight", x.chain(0), 1);
        due.equal("check(0), not home", x.check(0), 8);
    }

    private static void span() {
        CrewOffice x = twoFlights(100, 200, 499, 600);
        int[] one = {40, 630, 1, 201, 590};
        for (int what = 0; what < one.length; what++) {
            due.equal("span(" + what + ") of one duty", x.span(what), one[what]);
        }
        x.flight(1, 1, 0, 500, 700, 0);
        int[] two = {40, 730, 2, 300, 290};
        for (int what = 0; what < two.length; what++) {
            due.equal("span(" + what + ") of two duties", x.span(what), two[what]);
        }
        x.flight(1, 1, 0, 500, 510, 0);
        due.equal("the first duty is the longest", x.span(4), 190);
        x.rule(3, 301);
        due.equal("duties by GAP 301", x.span(2), 1);
        x.rule(3, 120);
        x.move(1, -181);
        due.equal("duties, 119 between", x.span(2), 1);
        x.move(1, 1);
        due.equal("duties, 120 between", x.span(2), 2);
    }

    private static void spanAgainstTime() {
        CrewOffice x = new CrewOffice();
        x.flight(0, 0, 1, 1000, 1100, 0);
        x.flight(1, 0, 1, 100, 200, 0);
        x.flight(2, 3, 4, 600, 601, 0);
        chain(x, 0, 1);
        int[] back = {940, 230, 1, 200, -710};
        for (int what = 0; what < back.length; what++) {
            due.equal("span(" + what + ") against the time", x.span(what), back[what]);
        }
        chain(x, 0, 1, 2);
        int[] again = {940, 631, 2, 201, 91};
        for (int what = 0; what < again.length; what++) {
            due.equal("span(" + what + ") against the time and on", x.span(what), again[what]);
        }
        chain(x, 2, 2, 2, 2, 2, 2, 2, 2);
        due.equal("a flight eight times", x.span(3), 8);
        due.equal("a flight eight times", x.span(4), 91);
    }

    private static void base() {
        CrewOffice x = twoFlights(100, 200, 300, 400);
        both(x, "from the base", 0);
        x.crew(1, 1, 0, 0, 0);
        due.equal("check(1), another base", x.check(1), 1);
        chain(x, 1);
        due.equal("check(0), from the base of crew 1", x.check(0), 1);
        due.equal("check(-1), from the base of crew 1", x.check(-1), 8);
        CrewOffice none = new CrewOffice();
        none.flight(0, 0, 1, 100, 200, 0);
        none.chain(0);
        due.equal("check(-1) without crews", none.check(-1), 1);
    }

    private static void links() {
        CrewOffice x = twoFlights(100, 200, 229, 300);
        both(x, "a turn of 29", 2);
        x.move(1, 1);
        both(x, "a turn of 30", 0);
        x.rule(2, 31);
        both(x, "a turn of 30, TURN 31", 2);
        x.rule(2, 0);
        x.move(1, -30);
        both(x, "a turn of 0, TURN 0", 0);
        x.move(1, -1);
        both(x, "a turn of -1, TURN 0", 2);
        x.flight(1, 2, 0, 400, 500, 0);
        both(x, "from another station", 2);
        chain(x, 0, 0);
        both(x, "the same flight twice", 2);
    }

    private static CrewOffice shuttle(int flights, int minutes, int turn) {
        CrewOffice x = new CrewOffice();
        x.crew(0, 0, 5, 7, 0);
        for (int k = 0; k < flights; k++) {
            int departs = 480 + k * (minutes + turn);
            x.flight(k, k % 2, 1 - k % 2, departs, departs + minutes, 0);
            x.chain(k);
        }
        return x;
    }

    private static void legsOfADuty() {
        both(shuttle(4, 30, 30), "4 legs", 0);
        CrewOffice five = shuttle(5, 30, 30);
        five.flight(1, 1, 2, 540, 570, 0);
        five.flight(2, 2, 0, 600, 630, 0);
        five.flight(3, 0, 1, 660, 690, 0);
        five.flight(4, 1, 0, 720, 750, 0);
        both(five, "5 legs", 3);
        five.rule(5, 5);
        both(five, "5 legs, LEGS 5", 0);
        CrewOffice x = shuttle(6, 30, 30);
        both(x, "6 legs", 3);
        x.rule(5, 5);
        both(x, "6 legs, LEGS 5", 3);
        x.rule(5, 6);
        both(x, "6 legs, LEGS 6", 0);
        CrewOffice two = twoFlights(100, 200, 300, 400);
        two.rule(5, 1);
        both(two, "2 legs, LEGS 1", 3);
        two.rule(9, 0);
        two.rule(4, 0);
        two.move(1, 300);
        both(two, "2 legs in 2 duties, LEGS 1", 0);
    }

    private static void limits() {
        CrewOffice x = twoFlights(100, 200, 499, 730);
        both(x, "a duty of 720", 0);
        x.flight(1, 1, 0, 499, 731, 0);
        both(x, "a duty of 721", 4);
        x.limit(0, 2, 721);
        both(x, "a duty of 721, limit 721", 0);
        CrewOffice six = shuttle(6, 30, 30);
        six.rule(5, 8);
        due.equal("its length", six.span(4), 60 + 6 * 30 + 5 * 30 + 30);
        six.limit(1, 4, 419);
        both(six, "6 legs by the limit of 4", 4);
        six.limit(1, 4, 420);
        six.limit(1, 3, 60);
        both(six, "6 legs by the limit of 4", 0);
        CrewOffice second = twoFlights(100, 200, 1860, 2000);
        both(second, "two duties", 0);
        second.limit(1, 1, 229);
        both(second, "the second duty is too long", 4);
        second.limit(1, 1, 230);
        both(second, "the second duty is not too long", 0);
    }

    /** The duty begins at 359 and 360 of the clock at its first station. */
    private static void limitsByBand() {
        CrewOffice x = twoFlights(419, 500, 600, 700);
        x.limit(1, 2, 60);
        both(x, "begins at 359", 0);
        x.move(0, 1);
        both(x, "begins at 360", 4);
        x.zone(0, -1, 20160, 0);
        both(x, "begins at 360, offset -1", 0);
        x.zone(1, -1, 20160, 0);
        x.zone(0, 0, 360, -1);
        both(x, "begins at 360, at the change", 0);
        x.zone(0, 0, 361, -1);
        both(x, "begins at 360, before the change", 4);
        CrewOffice early = twoFlights(0, 50, 100, 150);
        early.limit(3, 2, 60);
        both(early, "begins at -60, in band 3", 4);
        early.limit(3, 2, 720);
        early.limit(0, 2, 60);
        both(early, "begins at -60, not in band 0", 0);
        early.zone(0, 60, 0, -720);
        both(early, "begins at -60, before a change at 0", 4);
        early.limit(0, 2, 720);
        early.limit(2, 2, 60);
        early.zone(0, -720 + 60, 20160, 0);
        both(early, "begins at 720 of the day before", 4);
    }

    private static void rests() {
        CrewOffice x = twoFlights(100, 200, 889, 950);
        x.rule(9, 0);
        both(x, "a rest of 599", 5);
        x.move(1, 1);
        both(x, "a rest of 600", 0);
        x.rule(4, 601);
        both(x, "a rest of 600, REST 601", 5);
        CrewOffice longer = twoFlights(100, 700, 1479, 1600);
        longer.rule(9, 0);
        both(longer, "a rest of 689 behind a duty of 690", 5);
        longer.move(1, 1);
        both(longer, "a rest of 690 behind a duty of 690", 0);
        CrewOffice none = twoFlights(100, 101, 350, 400);
        none.rule(9, 0);
        none.rule(4, 0);
        none.rule(3, 120);
        due.equal("duties", none.span(2), 2);
        both(none, "a rest of 159 behind a duty of 91", 0);
        none.rule(0, 120);
        none.rule(1, 120);
        both(none, "a rest of 9 behind a duty of 241", 5);
    }

    private static void nights() {
        CrewOffice x = twoFlights(1000, 1290, 1860, 2000);
        due.equal("a rest of 480, and REST is 600", x.check(0), 5);
        x.rule(4, 0);
        both(x, "the night from 1320 to 1800", 0);
        x.move(1, -1);
        both(x, "the night from 1320 to 1799", 6);
        x.move(1, 1);
        x.flight(0, 0, 1, 1000, 1291, 0);
        both(x, "the night from 1321 to 1800", 6);
        x.rule(9, 0);
        both(x, "NIGHTS 0", 0);
        x.rule(9, 1);
        x.move(1, 1439);
        both(x, "no night but the second one", 6);
        x.move(1, 1);
        both(x, "the second night", 0);
        x.flight(0, 0, 1, 1000, 1290, 0);
        x.flight(1, 1, 0, 1860, 2000, 0);
        x.zone(0, 1, 20160, 0);
        both(x, "the clock of another station", 0);
        x.zone(1, -1, 20160, 0);
        both(x, "a night that ends a minute later", 6);
        x.zone(1, 1, 20160, 0);
        both(x, "a night that begins a minute earlier", 6);
    }

    /** A change of the clock makes a night longer or shorter, or joins two of them. */
    private static void nightsWithAChange() {
        CrewOffice x = twoFlights(1000, 1290, 1860, 2000);
        x.rule(4, 0);
        x.zone(1, 0, 1500, 1);
        both(x, "a night that is a minute shorter", 6);
        x.zone(1, 0, 1500, -1);
        both(x, "a night that is a minute longer", 0);
        x.flight(0, 0, 1, 1000, 1291, 0);
        both(x, "a night that is a minute longer, from its second minute", 6);
        x.move(1, 1);
        both(x, "a night that is a minute longer, to its last minute", 0);
        x.zone(1, 0, 1799, 720);
        both(x, "a night that ends by the change", 6);
        x.zone(1, 720, 1600, 0);
        both(x, "200 minutes of night", 6);
        x.flight(0, 0, 1, 1000, 1040, 0);
        x.flight(1, 1, 0, 1960, 2000, 0);
        x.zone(1, 400, 1400, -80);
        both(x, "from 920 to 1400 by the first, from 1400 to 1880 by the second: from 1070 on 810", 0);
        x.zone(1, 400, 1400, 520);
        both(x, "from 1070 to 1400", 6);
    }

    private static void duties() {
        CrewOffice x = new CrewOffice();
        x.crew(0, 0, 5, 7, 0);
        for (int day = 0; day < 4; day++) {
            x.flight(day, day % 2, 1 - day % 2, day * 1440 + 700, day * 1440 + 800, 0);
            x.chain(day);
        }
        both(x, "4 duties", 7);
        x.rule(6, 4);
        due.equal("away", x.span(1) - x.span(0), 4510);
        both(x, "DUTIES 4", 9);
        x.rule(7, 4510);
        both(x, "DUTIES 4, AWAY 4510", 0);
        x.rule(6, 1);
        both(x, "DUTIES 1", 7);
        chain(x, 0, 1);
        both(x, "2 duties, DUTIES 1", 7);
        x.rule(6, 2);
        both(x, "2 duties, DUTIES 2", 0);
    }

    private static void comesHome() {
        CrewOffice x = twoFlights(100, 200, 300, 400);
        x.flight(1, 1, 2, 300, 400, 0);
        both(x, "it ends at 2", 8);
        x.flight(2, 2, 0, 500, 600, 0);
        x.chain(2);
        both(x, "it ends at 0", 0);
    }

    private static void away() {
        CrewOffice x = twoFlights(100, 200, 4000, 4330);
        both(x, "away 4320", 0);
        x.flight(1, 1, 0, 4000, 4331, 0);
        both(x, "away 4321", 9);
        x.rule(7, 4321);
        both(x, "away 4321, AWAY 4321", 0);
        x.rule(7, 60);
        both(x, "AWAY 60", 9);
    }

    private static void ofACrew() {
        CrewOffice x = twoFlights(100, 200, 300, 400);
        x.flight(1, 1, 0, 300, 400, 2);
        int[] want = {10, 10, 10, 10, 10, 0, 10, 0};
        for (int types = 0; types < want.length; types++) {
            x.crew(0, 0, 5, types, 0);
            due.equal("check(0) with types " + types, x.check(0), want[types]);
            due.equal("check(-1) with types " + types, x.check(-1), 0);
        }
        x.crew(0, 0, 5, 7, 20000);
        due.equal("check(0), flown 20000", x.check(0), 12);
        due.equal("check(-1), flown 20000", x.check(-1), 0);
        x.crew(0, 0, 5, 7, 5801);
        due.equal("check(0), 1 too many", x.check(0), 12);
        x.rule(10, 6001);
        due.equal("check(0), FLYING 6001", x.check(0), 0);
        x.rule(10, 0);
        due.equal("check(0), FLYING 0", x.check(0), 12);
        x.off(0, 430, 431);
        due.equal("check(0), off behind its end", x.check(0), 12);
        x.off(0, 429, 430);
        due.equal("check(0), off", x.check(0), 11);
        x.crew(0, 0, 5, 3, 20000);
        x.off(0, 429, 430);
        due.equal("check(0), a type, off, and flown", x.check(0), 10);
    }

    /** All rules broken at once, and mended one after the other. */
    private static void leastFirst() {
        CrewOffice x = new CrewOffice();
        x.crew(0, 1, 0, 0, 20000);
        x.crew(1, 0, 0, 7, 0);
        x.off(0, 0, 20160);
        x.flight(0, 0, 1, 600, 700, 0);
        x.flight(1, 2, 1, 720, 800, 0);
        x.flight(2, 1, 2, 1400, 1500, 0);
        chain(x, 0, 1, 2);
        x.rule(5, 1);
        x.rule(6, 1);
        x.rule(7, 60);
        x.limit(1, 2, 60);
        due.equal("rule 1", x.check(0), 1);
        x.crew(0, 0, 0, 0, 20000);
        x.off(0, 0, 20160);
        due.equal("rule 2, the station", x.check(0), 2);
        x.flight(1, 1, 0, 720, 800, 0);
        x.flight(2, 0, 1, 1400, 1500, 0);
        due.equal("rule 2, the turn", x.check(0), 2);
        x.move(1, 10);
        due.equal("rule 3", x.check(0), 3);
        x.rule(5, 2);
        due.equal("rule 4", x.check(0), 4);
        x.limit(1, 2, 720);
        due.equal("rule 5", x.check(0), 5);
        x.rule(4, 0);
        due.equal("rule 6", x.check(0), 6);
        x.rule(9, 0);
        due.equal("rule 7", x.check(0), 7);
        x.rule(6, 2);
        due.equal("rule 8", x.check(0), 8);
        x.flight(3, 1, 0, 1600, 1700, 0);
        x.chain(3);
        due.equal("rule 9", x.check(0), 9);
        x.rule(7, 2000);
        due.equal("rule 10", x.check(0), 10);
        due.equal("no rule for no crew", x.check(-1), 0);
        x.crew(0, 0, 0, 1, 20000);
        x.off(0, 0, 20160);
        due.equal("rule 11", x.check(0), 11);
        x.off(0, 0, 0);
        due.equal("rule 12", x.check(0), 12);
        x.crew(0, 0, 0, 1, 0);
        due.equal("no rule", x.check(0), 0);
    }
}
