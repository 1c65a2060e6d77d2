import java.util.Random;

/** All promises: many random runs, each call made on the class and on the model, with the same answer due. */
final class OracleTest {
    private static final Due due = new Due("OracleTest");
    private static final int CALLS = 512;

    private final Random random;
    private final int seed;
    private final CrewOffice office = new CrewOffice();
    private final Model model = new Model();
    // the runs differ in how many stations and days they use, and how often a call is wrong
    private final int stations;
    private final int days;
    private final boolean wild;
    private final StringBuilder told = new StringBuilder();
    private int calls;

    private static int awards;
    private static int awardsToSeveral;
    private static int awardsRefused;
    private static int covers;
    private static int coversRefused;
    private static int coversWithFees;
    private static int listings;
    private static int tooMany;
    private static int mostListed;
    private static int mostCovering;

    private OracleTest(int seed) {
        this.seed = seed;
        random = new Random(seed);
        stations = 2 + random.nextInt(3);
        days = 1 + random.nextInt(6);
        wild = random.nextInt(8) == 0;
    }

    public static void main(String[] args) {
        int runs = args.length > 0 ? Integer.parseInt(args[0]) : 600;
        for (int seed = 0; seed < runs && due.wrong() < 5; seed++) {
            new OracleTest(seed).run();
        }
        System.out.println("listings " + listings + ", the longest " + mostListed + ", too long " + tooMany
                + "; covers " + covers + ", the largest " + mostCovering + ", with fees " + coversWithFees + ", none "
                + coversRefused + "; awards " + awards + ", to several " + awardsToSeveral + ", refused "
                + awardsRefused);
        due.equal("seen: too many pairings", tooMany > 0, true);
        due.equal("seen: covers with fees", coversWithFees > 0, true);
        due.equal("seen: no cover", coversRefused > 0, true);
        due.equal("seen: awards to several crews", awardsToSeveral > 0, true);
        due.equal("seen: awards refused", awardsRefused > 0, true);
        due.end();
    }

    private interface Answer {
        long get();
    }

    private static long one(Runnable call) {
        call.run();
        return 0;
    }

    private static long bit(boolean answer) {
        return answer ? 1 : 0;
    }

    private static String outcome(Answer answer) {
        try {
            return String.valueOf(answer.get());
        } catch (RuntimeException e) {
            return "throws." + e.getClass().getSimpleName();
        }
    }

    private String same(String what, Answer real, Answer plain) {
        calls++;
        String want = outcome(plain);
        String got = outcome(real);
        told.append(what).append(" = ").append(want).append('\n');
        due.equal("run " + seed + ", call " + calls + ": " + what + " answered " + got + ", due is " + want,
                got.equals(want), true);
        if (!got.equals(want) && due.wrong() == 1) {
            System.out.println(told);
        }
        return want;
    }

    private int below(int bound) {
        return random.nextInt(bound);
    }

    /** Mostly a number below the bound; in wild runs at times one out of bounds. */
    private int number(int bound) {
        if (wild && below(12) == 0) {
            return new int[] {-1, bound, Integer.MIN_VALUE, Integer.MAX_VALUE, -2}[below(5)];
        }
        return below(bound);
    }

    private void run() {
        if (below(3) == 0) {
            beLenient();
        } else {
            for (int k = 0; k < 14; k++) {
                rule(below(11));
            }
        }
        if (below(2) == 0) {
            zone();
            zone();
        }
        int crews = 1 + below(4);
        for (int k = 0; k < crews; k++) {
            crew();
        }
        int flights = 2 + below(11);
        for (int k = 0; k + 1 < flights; k += 2) {
            if (below(4) == 0) {
                flight(k);
                flight(k + 1);
            } else {
                outAndBack(k, k + 1);
            }
        }
        serve();
        while (calls < CALLS - 150) {
            int changes = below(4);
            for (int k = 0; k < changes; k++) {
                change();
            }
            if (below(3) == 0) {
                chains();
            }
            serve();
        }
    }

    private void zone() {
        int station = number(stations);
        int first = number(25) * 60 - 720;
        int change = below(2) == 0 ? number(days * 1440) : number(20161);
        int second = below(2) == 0 ? first + below(121) - 60 : number(1441) - 720;
        same("zone(" + station + ", " + first + ", " + change + ", " + second + ")",
                () -> one(() -> office.zone(station, first, change, second)),
                () -> one(() -> model.zone(station, first, change, second)));
    }

    private void flight(int flight) {
        int from = below(2) == 0 ? 0 : number(stations);
        int to = below(3) != 0 && from != 0 ? 0 : number(stations);
        int step = below(3) == 0 ? 1 : 30;
        int departs = number(days * 1440 / step) * step;
        int arrives = departs + (1 + number(below(4) == 0 ? 900 : 150) / step) * step;
        int type = below(3) == 0 ? number(3) : 0;
        same("flight(" + flight + ", " + from + ", " + to + ", " + departs + ", " + arrives + ", " + type + ")",
                () -> one(() -> office.flight(flight, from, to, departs, arrives, type)),
                () -> one(() -> model.flight(flight, from, to, departs, arrives, type)));
    }

    /** Rules by which there are many pairings. */
    private void beLenient() {
        int[][] values = {{2, 0}, {3, 300}, {4, 0}, {5, 8}, {6, 8}, {7, 20160}, {9, 0}, {10, 20000}};
        for (int[] one : values) {
            same("rule(" + one[0] + ", " + one[1] + ")",
                    () -> one(() -> office.rule(one[0], one[1])), () -> one(() -> model.rule(one[0], one[1])));
        }
        for (int k = 0; k < 16; k++) {
            int band = k / 4;
            int legs = k % 4 + 1;
            same("limit(" + band + ", " + legs + ", 1440)",
                    () -> one(() -> office.limit(band, legs, 1440)), () -> one(() -> model.limit(band, legs, 1440)));
        }
    }

    /** Two flights that may well be a pairing. */
    private void outAndBack(int out, int back) {
        int to = 1 + below(stations - 1);
        int departs = 30 * below(days * 48);
        int arrives = departs + 30 + 10 * below(20);
        int departsBack = arrives + (below(3) == 0 ? below(2000) : 30 + 10 * below(20));
        int arrivesBack = departsBack + 30 + 10 * below(20);
        boolean turned = below(4) == 0;
        set(turned ? back : out, 0, to, departs, arrives);
        set(turned ? out : back, to, 0, departsBack, arrivesBack);
    }

    private void set(int flight, int from, int to, int departs, int arrives) {
        int type = below(6) == 0 ? 1 : 0;
        same("flight(" + flight + ", " + from + ", " + to + ", " + departs + ", " + arrives + ", " + type + ")",
                () -> one(() -> office.flight(flight, from, to, departs, arrives, type)),
                () -> one(() -> model.flight(flight, from, to, departs, arrives, type)));
    }

    /** Drops the flights that are in no pairing, so that there is a cover. */
    private void dropRest() {
        int worked = 0;
        for (int i = 0; i < model.look(3); i++) {
            for (int k = 0; k < 8; k++) {
                int pairing = i;
                int place = k;
                String flight = outcome(() -> model.pairing(pairing, place));
                worked |= flight.startsWith("throws") ? 0 : 1 << Integer.parseInt(flight);
            }
        }
        for (int k = 0; k < 12; k++) {
            int flight = k;
            if ((worked >> flight & 1) == 0) {
                same("drop(" + flight + ")", () -> bit(office.drop(flight)), () -> bit(model.drop(flight)));
            }
        }
        same("pairings()", office::pairings, model::pairings);
    }

    private void rule(int n) {
        int[][] likely = {
            {0, 60, 120, 30}, {0, 30, 120, 1}, {0, 30, 10, 180}, {120, 300, 240, 900}, {0, 600, 300, 60}, {4, 8, 2, 1},
            {3, 8, 2, 1}, {4320, 20160, 1440, 700}, {200, 0, 10, 10000}, {1, 0, 0, 1}, {6000, 20000, 900, 300}};
        int number = wild && below(12) == 0 ? number(11) : n;
        int value = wild && below(4) == 0 ? number(1000) - 50 : likely[n][below(4)];
        same("rule(" + number + ", " + value + ")",
                () -> one(() -> office.rule(number, value)), () -> one(() -> model.rule(number, value)));
    }

    private void limit() {
        int band = number(4);
        int legs = 1 + number(4);
        int minutes = below(3) == 0 ? 60 + number(1381) : 720 + below(3) * 360;
        same("limit(" + band + ", " + legs + ", " + minutes + ")",
                () -> one(() -> office.limit(band, legs, minutes)), () -> one(() -> model.limit(band, legs, minutes)));
    }

    private void crew() {
        int crew = number(4);
        int base = below(3) != 0 ? 0 : number(stations);
        int rank = below(2) == 0 ? number(3) : number(100);
        int types = below(3) != 0 ? 7 : number(8);
        int flown = below(2) == 0 ? 0 : number(7000);
        same("crew(" + crew + ", " + base + ", " + rank + ", " + types + ", " + flown + ")",
                () -> one(() -> office.crew(crew, base, rank, types, flown)),
                () -> one(() -> model.crew(crew, base, rank, types, flown)));
    }

    private void off() {
        int crew = number(4);
        int from = number(days * 1440);
        int to = below(2) == 0 ? Math.max(0, Math.min(20160, from)) + below(100) : number(days * 1440);
        same("off(" + crew + ", " + from + ", " + to + ")",
                () -> one(() -> office.off(crew, from, to)), () -> one(() -> model.off(crew, from, to)));
    }

    private void bid() {
        int crew = number(4);
        int kind = number(3);
        int arg = number(kind == 0 ? 12 : kind == 1 ? stations : days);
        int weight = below(2) == 0 ? number(2001) - 1000 : below(5) - 2;
        same("bid(" + crew + ", " + kind + ", " + arg + ", " + weight + ")",
                () -> office.bid(crew, kind, arg, weight), () -> model.bid(crew, kind, arg, weight));
    }

    private void change() {
        int flight = number(12);
        int minutes = number(601) - 300;
        switch (below(10)) {
            case 0:
                zone();
                break;
            case 1:
                flight(flight);
                break;
            case 2:
            case 9:
                outAndBack(below(12), below(12));
                break;
            case 3:
                same("drop(" + flight + ")", () -> bit(office.drop(flight)), () -> bit(model.drop(flight)));
                break;
            case 4:
                same("move(" + flight + ", " + minutes + ")",
                        () -> bit(office.move(flight, minutes)), () -> bit(model.move(flight, minutes)));
                break;
            case 5:
                rule(below(11));
                break;
            case 6:
                limit();
                break;
            case 7:
                crew();
                break;
            default:
                off();
        }
    }

    /** A chain that follows a listed pairing for a while, or a random one, with all that can be asked of it. */
    private void chains() {
        same("clear()", office::clear, model::clear);
        int listed = model.look(3);
        int size = 1 + below(8);
        int pairing = listed > 0 ? below(listed) : -1;
        for (int k = 0; k < size; k++) {
            int place = k;
            String known = outcome(() -> model.pairing(pairing, place));
            int flight = below(6) == 0 || known.startsWith("throws") ? number(12) : Integer.parseInt(known);
            same("chain(" + flight + ")", () -> office.chain(flight), () -> model.chain(flight));
            if (k == size - 1 || below(2) == 0) {
                int crew = number(5) - 1;
                int what = number(5);
                same("check(" + crew + ")", () -> office.check(crew), () -> model.check(crew));
                same("span(" + what + ")", () -> office.span(what), () -> model.span(what));
            }
        }
        for (int k = -1; k < 4; k++) {
            int crew = k;
            same("check(" + crew + ")", () -> office.check(crew), () -> model.check(crew));
        }
    }

    private void serve() {
        if (below(10) != 0) {
            String count = same("pairings()", office::pairings, model::pairings);
            listings++;
            tooMany += count.equals("-1") ? 1 : 0;
            if (!count.equals("-1") && !count.equals("0") && below(3) != 0) {
                dropRest();
            }
        }
        int bids = below(6);
        for (int k = 0; k < bids; k++) {
            bid();
        }
        if (below(10) != 0) {
            boolean hadListed = model.look(3) != -1;
            String cost = same("cover()", office::cover, model::cover);
            if (hadListed) {
                covers += cost.startsWith("-1") ? 0 : 1;
                coversRefused += cost.startsWith("-1") ? 1 : 0;
            }
        }
        mostListed = Math.max(mostListed, model.look(3));
        mostCovering = Math.max(mostCovering, model.look(4));
        if (model.look(4) > 0) {
            countFees();
        }
        String all = same("award()", () -> bit(office.award()), () -> bit(model.award()));
        awardsRefused += all.equals("0") ? 1 : 0;
        awards += all.equals("1") && model.look(5) > 0 ? 1 : 0;
        if (below(8) == 0) {
            bid();
        }
        asks();
    }

    private void countFees() {
        int flights = 0;
        for (int i = 0; i < model.look(3); i++) {
            for (int k = 0; model.covers(i) && k < 8; k++) {
                int pairing = i;
                int place = k;
                flights += outcome(() -> model.pairing(pairing, place)).startsWith("throws") ? 0 : 1;
            }
        }
        coversWithFees += flights > model.look(0) ? 1 : 0;
    }

    private void asks() {
        int holders = 0;
        for (int k = -1; k <= model.look(3); k++) {
            int i = k;
            boolean inCover = !outcome(() -> bit(model.covers(i))).equals("0");
            if (inCover || below(5) == 0) {
                String owner = same("owner(" + i + ")", () -> office.owner(i), () -> model.owner(i));
                holders |= owner.length() == 1 ? 1 << Integer.parseInt(owner) : 0;
                same("covers(" + i + ")", () -> bit(office.covers(i)), () -> bit(model.covers(i)));
            }
            int flight = number(9);
            same("pairing(" + i + ", " + flight + ")",
                    () -> office.pairing(i, flight), () -> model.pairing(i, flight));
        }
        awardsToSeveral += Integer.bitCount(holders) > 1 ? 1 : 0;
        for (int k = 0; k < 4; k++) {
            int crew = k;
            same("score(" + crew + ")", () -> office.score(crew), () -> model.score(crew));
        }
        for (int k = 0; k < 6; k++) {
            int what = k;
            same("look(" + what + ")", () -> office.look(what), () -> model.look(what));
        }
        int station = number(5);
        int minute = number(20161);
        same("local(" + station + ", " + minute + ")",
                () -> office.local(station, minute), () -> model.local(station, minute));
    }
}
