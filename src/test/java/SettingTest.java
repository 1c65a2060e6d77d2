import java.util.NoSuchElementException;

/** Promises 1 to 9, 22 and 23: what calls set, and how it can be seen. */
final class SettingTest {
    private static final Class<IllegalArgumentException> ARGUMENT = IllegalArgumentException.class;
    private static final Class<NoSuchElementException> ELEMENT = NoSuchElementException.class;
    private static final Class<IllegalStateException> STATE = IllegalStateException.class;
    private static final int MIN = Integer.MIN_VALUE;
    private static final int MAX = Integer.MAX_VALUE;

    private static final Due due = new Due("SettingTest");

    public static void main(String[] args) {
        newObject();
        zone();
        zoneThrows();
        flight();
        flightThrows();
        drop();
        move();
        rule();
        limit();
        crew();
        off();
        emptiesPairings();
        look();
        due.end();
    }

    private static void newObject() {
        CrewOffice x = new CrewOffice();
        int[] looks = {0, 0, 0, -1, -1, 0};
        for (int what = 0; what < looks.length; what++) {
            due.equal("look(" + what + ") of a new object", x.look(what), looks[what]);
        }
        due.equal("clear() of a new object", x.clear(), 0);
        due.equal("cover() of a new object", x.cover(), -1);
        due.fails("award() of a new object", STATE, x::award);
        due.fails("check(-1) of a new object", ELEMENT, () -> x.check(-1));
        due.fails("span(0) of a new object", ELEMENT, () -> x.span(0));
        due.fails("pairing(0, 0) of a new object", ELEMENT, () -> x.pairing(0, 0));
        due.fails("covers(0) of a new object", ELEMENT, () -> x.covers(0));
        due.fails("owner(0) of a new object", ELEMENT, () -> x.owner(0));
        for (int k = 0; k < 4; k++) {
            int crew = k;
            due.fails("score of a crew that is not there", ELEMENT, () -> x.score(crew));
        }
        for (int k = 0; k < 12; k++) {
            due.equal("drop of a flight that is not there", x.drop(k), false);
        }
        for (int k = 0; k < 5; k++) {
            due.equal("local at first", x.local(k, 0), 0);
            due.equal("local at first", x.local(k, 20160), 20160);
        }
    }

    private static void zone() {
        CrewOffice x = new CrewOffice();
        x.zone(2, -720, 1000, 720);
        due.equal("local before the change", x.local(2, 0), -720);
        due.equal("local right before the change", x.local(2, 999), 279);
        due.equal("local at the change", x.local(2, 1000), 1720);
        due.equal("local behind the change", x.local(2, 20160), 20880);
        due.equal("local of another station", x.local(1, 1000), 1000);
        x.zone(4, 30, 0, -15);
        due.equal("local, changed from 0 on", x.local(4, 0), -15);
        x.zone(0, 30, 20160, -15);
        due.equal("local before the last minute", x.local(0, 20159), 20189);
        due.equal("local at the last minute", x.local(0, 20160), 20145);
        x.zone(2, 1, 5, 2);
        due.equal("local, set again", x.local(2, 4), 5);
        due.equal("local, set again", x.local(2, 5), 7);
        for (int station : new int[] {-1, 5, MIN, MAX}) {
            due.fails("local(" + station + ", 0)", ARGUMENT, () -> x.local(station, 0));
        }
        for (int minute : new int[] {-1, 20161, MIN, MAX}) {
            due.fails("local(0, " + minute + ")", ARGUMENT, () -> x.local(0, minute));
        }
    }

    private static void zoneThrows() {
        CrewOffice x = new CrewOffice();
        x.pairings();
        for (int station : new int[] {-1, 5, MIN, MAX}) {
            due.fails("zone(" + station + ", ..)", ARGUMENT, () -> x.zone(station, 1, 1, 1));
        }
        for (int offset : new int[] {-721, 721, MIN, MAX}) {
            due.fails("zone(0, " + offset + ", 0, 0)", ARGUMENT, () -> x.zone(0, offset, 1, 1));
            due.fails("zone(0, 0, 0, " + offset + ")", ARGUMENT, () -> x.zone(0, 1, 1, offset));
        }
        for (int change : new int[] {-1, 20161, MIN, MAX}) {
            due.fails("zone(0, 0, " + change + ", 0)", ARGUMENT, () -> x.zone(0, 1, change, 1));
        }
        due.equal("local when zone threw", x.local(0, 100), 100);
        due.equal("look(3) when zone threw", x.look(3), 0);
        x.zone(0, 720, 0, -720);
        x.zone(4, -720, 20160, 720);
        due.equal("look(3) behind a zone", x.look(3), -1);
    }

    private static void flight() {
        CrewOffice x = new CrewOffice();
        x.flight(0, 0, 1, 0, 900, 2);
        x.flight(11, 4, 3, 20159, 20160, 0);
        due.equal("look(0)", x.look(0), 2);
        x.flight(11, 3, 4, 20000, 20160, 1);
        due.equal("look(0), a flight in place of another one", x.look(0), 2);
        x.chain(11);
        due.equal("its beginning", x.span(0), 19940);
        due.equal("its end", x.span(1), 20190);
        due.equal("its minutes in the air", x.span(3), 160);
        x.clear();
        x.chain(0);
        due.equal("a beginning before 0", x.span(0), -60);
        due.equal("an end", x.span(1), 930);
    }

    private static void flightThrows() {
        CrewOffice x = new CrewOffice();
        x.flight(0, 0, 1, 100, 200, 0);
        x.chain(0);
        x.pairings();
        for (int bad : new int[] {-1, 12, MIN, MAX}) {
            due.fails("flight(" + bad + ", ..)", ARGUMENT, () -> x.flight(bad, 0, 1, 1, 2, 0));
        }
        for (int bad : new int[] {-1, 5, MIN, MAX}) {
            due.fails("flight from " + bad, ARGUMENT, () -> x.flight(0, bad, 1, 1, 2, 0));
            due.fails("flight to " + bad, ARGUMENT, () -> x.flight(0, 0, bad, 1, 2, 0));
        }
        for (int bad : new int[] {-1, 3, MIN, MAX}) {
            due.fails("flight of type " + bad, ARGUMENT, () -> x.flight(0, 0, 1, 1, 2, bad));
        }
        due.fails("flight to where it departs", ARGUMENT, () -> x.flight(0, 3, 3, 1, 2, 0));
        due.fails("flight departs at -1", ARGUMENT, () -> x.flight(0, 0, 1, -1, 2, 0));
        due.fails("flight departs at MIN", ARGUMENT, () -> x.flight(0, 0, 1, MIN, 2, 0));
        due.fails("flight departs at MAX", ARGUMENT, () -> x.flight(0, 0, 1, MAX, 2, 0));
        due.fails("flight from MIN to MAX", ARGUMENT, () -> x.flight(0, 0, 1, MIN, MAX, 0));
        due.fails("flight arrives when it departs", ARGUMENT, () -> x.flight(0, 0, 1, 7, 7, 0));
        due.fails("flight arrives before it departs", ARGUMENT, () -> x.flight(0, 0, 1, 7, 6, 0));
        due.fails("flight arrives at 20161", ARGUMENT, () -> x.flight(0, 0, 1, 20000, 20161, 0));
        due.fails("flight arrives at MAX", ARGUMENT, () -> x.flight(0, 0, 1, 20000, MAX, 0));
        due.fails("flight of 901 minutes", ARGUMENT, () -> x.flight(0, 0, 1, 7, 908, 0));
        due.equal("beginning when flight threw", x.span(0), 40);
        due.equal("minutes in the air when flight threw", x.span(3), 100);
        due.equal("look(0) when flight threw", x.look(0), 1);
        due.equal("look(3) when flight threw", x.look(3), 0);
    }

    private static void drop() {
        CrewOffice x = new CrewOffice();
        x.flight(11, 0, 1, 100, 200, 0);
        x.flight(3, 0, 1, 100, 200, 0);
        due.equal("drop(0), not there", x.drop(0), false);
        due.equal("drop(11)", x.drop(11), true);
        due.equal("drop(11) again", x.drop(11), false);
        due.equal("look(0)", x.look(0), 1);
        for (int bad : new int[] {-1, 12, MIN, MAX}) {
            due.fails("drop(" + bad + ")", ARGUMENT, () -> x.drop(bad));
        }
        x.flight(11, 0, 1, 100, 200, 0);
        due.equal("look(0), there again", x.look(0), 2);
    }

    private static void move() {
        CrewOffice x = new CrewOffice();
        x.flight(5, 0, 1, 100, 200, 0);
        x.chain(5);
        due.equal("move(5, 10)", x.move(5, 10), true);
        due.equal("its beginning", x.span(0), 50);
        due.equal("its end", x.span(1), 240);
        due.equal("its air", x.span(3), 100);
        due.equal("move below 0", x.move(5, -111), false);
        due.equal("beginning, not moved", x.span(0), 50);
        due.equal("move to 0", x.move(5, -110), true);
        due.equal("beginning, moved to 0", x.span(0), -60);
        due.equal("move above 20160", x.move(5, 20061), false);
        due.equal("move to 20160", x.move(5, 20060), true);
        due.equal("end, moved to 20160", x.span(1), 20190);
        due.equal("move by MAX", x.move(5, MAX), false);
        due.equal("move by MIN", x.move(5, MIN), false);
        due.equal("move by nothing", x.move(5, 0), true);
        due.equal("end, not moved", x.span(1), 20190);
        due.equal("move of no flight", x.move(4, 1), false);
        due.equal("move of no flight by nothing", x.move(4, 0), false);
        due.equal("look(0)", x.look(0), 1);
        for (int bad : new int[] {-1, 12, MIN, MAX}) {
            due.fails("move(" + bad + ", 0)", ARGUMENT, () -> x.move(bad, 0));
        }
    }

    private static void rule() {
        int[] least = {0, 0, 0, 120, 0, 1, 1, 60, 0, 0, 0};
        int[] most = {120, 120, 180, 900, 900, 8, 8, 20160, 10000, 1, 20000};
        CrewOffice x = new CrewOffice();
        x.pairings();
        for (int k = 0; k < least.length; k++) {
            int n = k;
            due.fails("rule " + n + " below", ARGUMENT, () -> x.rule(n, least[n] - 1));
            due.fails("rule " + n + " above", ARGUMENT, () -> x.rule(n, most[n] + 1));
            due.fails("rule " + n + " MIN", ARGUMENT, () -> x.rule(n, MIN));
            due.fails("rule " + n + " MAX", ARGUMENT, () -> x.rule(n, MAX));
        }
        for (int bad : new int[] {-1, 11, MIN, MAX}) {
            due.fails("rule(" + bad + ", 1)", ARGUMENT, () -> x.rule(bad, 1));
        }
        due.equal("look(3) when rule threw", x.look(3), 0);
        for (int n = 0; n < least.length; n++) {
            x.rule(n, least[n]);
            x.rule(n, most[n]);
        }
        due.equal("look(3) behind a rule", x.look(3), -1);
        x.flight(0, 0, 1, 500, 600, 0);
        x.chain(0);
        due.equal("beginning by REPORT 120", x.span(0), 380);
        due.equal("end by RELEASE 120", x.span(1), 720);
        x.rule(0, 0);
        x.rule(1, 1);
        due.equal("beginning by REPORT 0", x.span(0), 500);
        due.equal("end by RELEASE 1", x.span(1), 601);
    }

    private static void limit() {
        CrewOffice x = new CrewOffice();
        x.pairings();
        for (int bad : new int[] {-1, 4, MIN, MAX}) {
            due.fails("limit of band " + bad, ARGUMENT, () -> x.limit(bad, 1, 60));
        }
        for (int bad : new int[] {0, 5, -1, MIN, MAX}) {
            due.fails("limit of legs " + bad, ARGUMENT, () -> x.limit(0, bad, 60));
        }
        for (int bad : new int[] {59, 1441, -1, MIN, MAX}) {
            due.fails("limit of minutes " + bad, ARGUMENT, () -> x.limit(0, 1, bad));
        }
        due.equal("look(3) when limit threw", x.look(3), 0);
        for (int band = 0; band < 4; band++) {
            for (int legs = 1; legs <= 4; legs++) {
                x.limit(band, legs, 60);
                x.limit(band, legs, 1440);
            }
        }
        due.equal("look(3) behind a limit", x.look(3), -1);
    }

    private static void crew() {
        CrewOffice x = new CrewOffice();
        x.pairings();
        for (int bad : new int[] {-1, 4, MIN, MAX}) {
            due.fails("crew(" + bad + ", ..)", ARGUMENT, () -> x.crew(bad, 0, 0, 0, 0));
        }
        for (int bad : new int[] {-1, 5, MIN, MAX}) {
            due.fails("crew of base " + bad, ARGUMENT, () -> x.crew(0, bad, 0, 0, 0));
        }
        for (int bad : new int[] {-1, 100, MIN, MAX}) {
            due.fails("crew of rank " + bad, ARGUMENT, () -> x.crew(0, 0, bad, 0, 0));
        }
        for (int bad : new int[] {-1, 8, MIN, MAX}) {
            due.fails("crew of types " + bad, ARGUMENT, () -> x.crew(0, 0, 0, bad, 0));
        }
        for (int bad : new int[] {-1, 20001, MIN, MAX}) {
            due.fails("crew of flown " + bad, ARGUMENT, () -> x.crew(0, 0, 0, 0, bad));
        }
        due.equal("look(1) when crew threw", x.look(1), 0);
        due.equal("look(3) when crew threw", x.look(3), 0);
        x.crew(0, 0, 0, 0, 0);
        x.crew(3, 4, 99, 7, 20000);
        x.crew(3, 2, 99, 7, 20000);
        due.equal("look(1)", x.look(1), 2);
        due.equal("look(3) behind a crew", x.look(3), -1);
        replacedCrew();
    }

    private static void replacedCrew() {
        CrewOffice x = new CrewOffice();
        x.crew(0, 0, 5, 1, 0);
        x.flight(0, 0, 1, 100, 200, 0);
        x.flight(1, 1, 0, 300, 400, 0);
        x.chain(0);
        x.chain(1);
        x.off(0, 300, 301);
        due.equal("bid", x.bid(0, 2, 5, 7), 1);
        due.equal("score by the bid", x.score(0), 7);
        due.equal("check with a time off", x.check(0), 11);
        x.crew(0, 0, 5, 1, 0);
        due.equal("check without a time off", x.check(0), 0);
        due.equal("score without bids", x.score(0), 0);
        due.equal("a first bid again", x.bid(0, 2, 5, 7), 1);
        x.crew(0, 1, 5, 1, 0);
        due.equal("check with another base", x.check(0), 1);
        x.crew(0, 0, 5, 6, 0);
        due.equal("check with other types", x.check(0), 10);
        x.crew(0, 0, 5, 1, 5801);
        due.equal("check with more flown", x.check(0), 12);
        x.crew(0, 0, 5, 1, 5800);
        due.equal("check with just enough left", x.check(0), 0);
    }

    private static void off() {
        CrewOffice x = new CrewOffice();
        for (int bad : new int[] {-1, 4, MIN, MAX}) {
            due.fails("off(" + bad + ", ..)", ARGUMENT, () -> x.off(bad, 0, 0));
        }
        due.fails("off of a crew that is not there", ELEMENT, () -> x.off(1, 0, 0));
        for (int bad : new int[] {-1, 20161, MIN, MAX}) {
            due.fails("off from " + bad + " of no crew", ARGUMENT, () -> x.off(1, bad, 0));
            due.fails("off to " + bad + " of no crew", ARGUMENT, () -> x.off(1, 0, bad));
        }
        x.crew(1, 0, 5, 7, 0);
        x.flight(0, 0, 1, 100, 200, 0);
        x.flight(1, 1, 0, 300, 400, 0);
        x.chain(0);
        x.chain(1);
        int[][] spans = {
            {0, 40, 0}, {0, 41, 11}, {40, 41, 11}, {429, 430, 11}, {430, 431, 0}, {429, 20160, 11}, {430, 20160, 0},
            {100, 100, 0}, {200, 100, 0}, {0, 20160, 11}, {20160, 20160, 0}, {20160, 0, 0}, {240, 241, 11}};
        for (int[] span : spans) {
            x.off(1, span[0], span[1]);
            due.equal("check, off from " + span[0] + " to " + span[1], x.check(1), span[2]);
            due.equal("check for no crew", x.check(-1), 0);
        }
        x.pairings();
        due.fails("off(1, 0, 20161)", ARGUMENT, () -> x.off(1, 0, 20161));
        due.equal("check when off threw", x.check(1), 11);
        due.equal("look(3) when off threw", x.look(3), 1);
        x.off(1, 240, 241);
        due.equal("look(3) behind an off", x.look(3), -1);
    }

    private interface Call {
        void on(CrewOffice x);
    }

    private static CrewOffice awarded() {
        CrewOffice x = new CrewOffice();
        x.crew(0, 0, 5, 7, 0);
        x.flight(0, 0, 1, 100, 200, 0);
        x.flight(1, 1, 0, 300, 400, 0);
        due.equal("pairings()", x.pairings(), 1);
        due.equal("cover()", x.cover(), 390);
        due.equal("award()", x.award(), true);
        due.equal("look(5)", x.look(5), 1);
        return x;
    }

    private static void emptied(String what, boolean all, Call call) {
        CrewOffice x = awarded();
        call.on(x);
        due.equal("look(3) behind " + what, x.look(3), all ? -1 : 1);
        due.equal("look(4) behind " + what, x.look(4), all ? -1 : 1);
        due.equal("look(5) behind " + what, x.look(5), all ? 0 : 1);
        if (all) {
            due.fails("owner(0) behind " + what, ELEMENT, () -> x.owner(0));
            due.fails("award() behind " + what, STATE, x::award);
            due.equal("cover() behind " + what, x.cover(), -1);
        } else {
            due.equal("owner(0) behind " + what, x.owner(0), 0);
        }
    }

    private static void emptiesPairings() {
        emptied("a zone as it was", true, x -> x.zone(0, 0, 20160, 0));
        emptied("a flight as it was", true, x -> x.flight(0, 0, 1, 100, 200, 0));
        emptied("a drop", true, x -> x.drop(0));
        emptied("a drop of nothing", false, x -> x.drop(7));
        emptied("a move by nothing", true, x -> x.move(0, 0));
        emptied("a move out of bounds", false, x -> x.move(0, -101));
        emptied("a move of nothing", false, x -> x.move(2, 0));
        emptied("a rule as it was", true, x -> x.rule(0, 60));
        emptied("a limit as it was", true, x -> x.limit(0, 1, 720));
        emptied("a crew as it was", true, x -> x.crew(0, 0, 5, 7, 0));
        emptied("a time off as it was", true, x -> x.off(0, 0, 0));
        emptied("a wrong rule", false, x -> due.fails("a wrong rule", ARGUMENT, () -> x.rule(0, 121)));
        emptied("a wrong off", false, x -> due.fails("a wrong off", ELEMENT, () -> x.off(1, 0, 0)));
        emptied("a chain", false, x -> x.chain(0));
        emptied("a clear", false, CrewOffice::clear);
        emptied("a look", false, x -> x.look(5));
    }

    private static void look() {
        CrewOffice x = awarded();
        x.chain(0);
        x.chain(9);
        x.chain(9);
        int[] looks = {2, 1, 3, 1, 1, 1};
        for (int what = 0; what < looks.length; what++) {
            due.equal("look(" + what + ")", x.look(what), looks[what]);
        }
        for (int bad : new int[] {-1, 6, MIN, MAX}) {
            due.fails("look(" + bad + ")", ARGUMENT, () -> x.look(bad));
        }
    }
}
