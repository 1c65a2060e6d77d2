import java.util.Arrays;
import java.util.NoSuchElementException;

/**
 * A crew office: flights between stations with their own clocks, rules for duties and rests, all legal
 * pairings listed, the cheapest set of them that works every flight, and bids by which crews are given these.
 */
public final class CrewOffice {
    private static final int STATIONS = 5;
    private static final int FLIGHTS = 12;
    private static final int TYPES = 3;
    private static final int CREWS = 4;
    private static final int BANDS = 4;
    private static final int LEG_LIMITS = 4;
    private static final int DAYS = 14;
    private static final int MOST_BIDS = 6;
    private static final int LONGEST_ROW = 8;
    private static final int MOST_PAIRINGS = 40;

    private static final int LAST_MINUTE = 20160;
    private static final int DAY = 1440;
    private static final int BAND = 360;
    private static final int NIGHT_ENDS = 360;
    private static final int NIGHT_BEGINS = 1320;
    private static final int NIGHT_REST = 480;
    private static final int MOST_OFFSET = 720;
    private static final int LONGEST_FLIGHT = 900;
    private static final int LEAST_LIMIT = 60;
    private static final int MOST_LIMIT = 1440;
    private static final int FIRST_LIMIT = 720;
    private static final int MOST_RANK = 99;
    private static final int ALL_TYPES = 7;
    private static final int MOST_FLOWN = 20000;
    private static final int MOST_WEIGHT = 1000;

    private static final int REPORT = 0;
    private static final int RELEASE = 1;
    private static final int TURN = 2;
    private static final int GAP = 3;
    private static final int REST = 4;
    private static final int LEGS = 5;
    private static final int DUTIES = 6;
    private static final int AWAY = 7;
    private static final int FEE = 8;
    private static final int NIGHTS = 9;
    private static final int FLYING = 10;
    private static final int RULES = 11;
    private static final int[] LEAST_VALUES = {0, 0, 0, 120, 0, 1, 1, 60, 0, 0, 0};
    private static final int[] MOST_VALUES = {120, 120, 180, 900, 900, 8, 8, 20160, 10000, 1, 20000};
    private static final int[] FIRST_VALUES = {60, 30, 30, 300, 600, 4, 3, 4320, 200, 1, 6000};

    private static final int BID_FLIGHT = 0;
    private static final int BID_STATION = 1;
    private static final int BID_DAY = 2;

    private static final int NO_CREW = -1;
    private static final int NONE = -1;

    private final Plan plan;
    private final Trip trip;
    private final Listing listing;
    private final Choice choice;
    private final Sharing sharing;

    public CrewOffice() {
        plan = new Plan();
        trip = new Trip(plan);
        listing = new Listing(plan);
        choice = new Choice(plan, listing);
        sharing = new Sharing(plan, listing, choice);
    }

    public void zone(int station, int first, int change, int second) throws IllegalArgumentException {
        needArgument(isWithin(station, 0, STATIONS - 1));
        needArgument(isWithin(first, -MOST_OFFSET, MOST_OFFSET));
        needArgument(isWithin(second, -MOST_OFFSET, MOST_OFFSET));
        needArgument(isWithin(change, 0, LAST_MINUTE));
        plan.clocks[station].set(first, change, second);
        forgetPairings();
    }

    public void flight(int flight, int from, int to, int departs, int arrives, int type)
            throws IllegalArgumentException {
        needArgument(isWithin(flight, 0, FLIGHTS - 1));
        needArgument(isWithin(from, 0, STATIONS - 1) && isWithin(to, 0, STATIONS - 1) && from != to);
        needArgument(isWithin(type, 0, TYPES - 1));
        needArgument(departs >= 0 && arrives > departs && arrives <= LAST_MINUTE);
        needArgument(arrives - departs <= LONGEST_FLIGHT);
        plan.legs[flight].set(from, to, departs, arrives, type);
        forgetPairings();
    }

    public boolean drop(int flight) throws IllegalArgumentException {
        needArgument(isWithin(flight, 0, FLIGHTS - 1));
        if (!plan.legs[flight].there) {
            return false;
        }
        plan.legs[flight].there = false;
        forgetPairings();
        return true;
    }

    public boolean move(int flight, int minutes) throws IllegalArgumentException {
        needArgument(isWithin(flight, 0, FLIGHTS - 1));
        if (!plan.legs[flight].there || !plan.legs[flight].shift(minutes)) {
            return false;
        }
        forgetPairings();
        return true;
    }

    public void rule(int n, int value) throws IllegalArgumentException {
        needArgument(isWithin(n, 0, RULES - 1));
        needArgument(isWithin(value, LEAST_VALUES[n], MOST_VALUES[n]));
        plan.values[n] = value;
        forgetPairings();
    }

    public void limit(int band, int legs, int minutes) throws IllegalArgumentException {
        needArgument(isWithin(band, 0, BANDS - 1));
        needArgument(isWithin(legs, 1, LEG_LIMITS));
        needArgument(isWithin(minutes, LEAST_LIMIT, MOST_LIMIT));
        plan.limits[band][legs - 1] = minutes;
        forgetPairings();
    }

    public void crew(int crew, int base, int rank, int types, int flown) throws IllegalArgumentException {
        needArgument(isWithin(crew, 0, CREWS - 1));
        needArgument(isWithin(base, 0, STATIONS - 1));
        needArgument(isWithin(rank, 0, MOST_RANK));
        needArgument(isWithin(types, 0, ALL_TYPES));
        needArgument(isWithin(flown, 0, MOST_FLOWN));
        plan.members[crew].set(base, rank, types, flown);
        forgetPairings();
    }

    public void off(int crew, int from, int to) throws IllegalArgumentException, NoSuchElementException {
        needArgument(isWithin(crew, 0, CREWS - 1));
        needArgument(isWithin(from, 0, LAST_MINUTE));
        needArgument(isWithin(to, 0, LAST_MINUTE));
        needElement(plan.members[crew].there);
        plan.members[crew].offFrom = from;
        plan.members[crew].offTo = to;
        forgetPairings();
    }

    public int clear() {
        int had = trip.whole.size;
        trip.whole.size = 0;
        return had;
    }

    public int chain(int flight) throws IllegalArgumentException, IllegalStateException {
        needArgument(isWithin(flight, 0, FLIGHTS - 1));
        needState(trip.whole.size < LONGEST_ROW);
        trip.put(trip.whole.size, flight);
        return trip.whole.size;
    }

    public int check(int crew) throws IllegalArgumentException, NoSuchElementException {
        needArgument(isWithin(crew, NO_CREW, CREWS - 1));
        needElement(crew == NO_CREW || plan.members[crew].there);
        needElement(trip.canBeMeasured());
        trip.measure();
        return trip.leastBroken(crew);
    }

    public int span(int what) throws IllegalArgumentException, NoSuchElementException {
        needArgument(isWithin(what, 0, 4));
        needElement(trip.canBeMeasured());
        trip.measure();
        switch (what) {
            case 0:
                return trip.whole.begin;
            case 1:
                return trip.whole.end;
            case 2:
                return trip.duties;
            case 3:
                return trip.whole.air;
            default:
                return trip.longestDuty();
        }
    }

    public int pairings() {
        forgetPairings();
        listing.list();
        return listing.count;
    }

    public int pairing(int i, int k) throws NoSuchElementException {
        needElement(isListed(i));
        needElement(isWithin(k, 0, listing.works[i].size - 1));
        return listing.works[i].row[k];
    }

    public int cover() {
        sharing.forget();
        choice.forget();
        return listing.count == NONE ? NONE : choice.choose();
    }

    public boolean covers(int i) throws NoSuchElementException {
        needElement(isListed(i));
        return choice.placeOf(i) != NONE;
    }

    public int bid(int crew, int kind, int arg, int weight)
            throws IllegalArgumentException, NoSuchElementException, IllegalStateException {
        needArgument(isWithin(crew, 0, CREWS - 1));
        needArgument(isWithin(kind, BID_FLIGHT, BID_DAY));
        needArgument(isWithin(arg, 0, greatestArgument(kind)));
        needArgument(isWithin(weight, -MOST_WEIGHT, MOST_WEIGHT));
        needElement(plan.members[crew].there);
        needState(plan.members[crew].bids < MOST_BIDS);
        plan.members[crew].addBid(kind, arg, weight);
        sharing.forget();
        return plan.members[crew].bids;
    }

    public boolean award() throws IllegalStateException {
        needState(choice.count != NONE);
        return sharing.share();
    }

    public int owner(int i) throws NoSuchElementException {
        needElement(isListed(i));
        int place = choice.placeOf(i);
        return place == NONE ? NO_CREW : sharing.holderOf(place);
    }

    public int score(int crew) throws IllegalArgumentException, NoSuchElementException {
        needArgument(isWithin(crew, 0, CREWS - 1));
        needElement(plan.members[crew].there);
        return sharing.valueOf(plan.members[crew], sharing.shares[crew]);
    }

    public int local(int station, int minute) throws IllegalArgumentException {
        needArgument(isWithin(station, 0, STATIONS - 1));
        needArgument(isWithin(minute, 0, LAST_MINUTE));
        return plan.clocks[station].localOf(minute);
    }

    public int look(int what) throws IllegalArgumentException {
        needArgument(isWithin(what, 0, 5));
        switch (what) {
            case 0:
                return Integer.bitCount(plan.flightsThere());
            case 1:
                return plan.countMembers();
            case 2:
                return trip.whole.size;
            case 3:
                return listing.count;
            case 4:
                return choice.count;
            default:
                return sharing.countShared();
        }
    }

    private boolean isListed(int i) {
        return isWithin(i, 0, listing.count - 1);
    }

    private void forgetPairings() {
        listing.forget();
        choice.forget();
        sharing.forget();
    }

    private static int greatestArgument(int kind) {
        switch (kind) {
            case BID_FLIGHT:
                return FLIGHTS - 1;
            case BID_STATION:
                return STATIONS - 1;
            default:
                return DAYS - 1;
        }
    }

    private static boolean isWithin(int value, int least, int most) {
        return least <= value && value <= most;
    }

    private static void needArgument(boolean holds) {
        if (!holds) {
            throw new IllegalArgumentException("an argument is out of its bounds");
        }
    }

    private static void needElement(boolean holds) {
        if (!holds) {
            throw new NoSuchElementException("there is none such");
        }
    }

    private static void needState(boolean holds) {
        if (!holds) {
            throw new IllegalStateException("not in this state");
        }
    }

    /** A station's clock. */
    private static final class Clock {
        // far above the stretches of day and night that fit into the time between the first and the last minute
        private static final int MOST_STRETCHES = 100;

        int first = 0;
        int change = LAST_MINUTE;
        int second = 0;

        void set(int newFirst, int newChange, int newSecond) {
            first = newFirst;
            change = newChange;
            second = newSecond;
        }

        int localOf(int minute) {
            return minute + (minute < change ? first : second);
        }

        int timeOfDay(int minute) {
            return Math.floorMod(localOf(minute), DAY);
        }

        /** Whether from a minute to before another one there is a night's rest in a row. */
        boolean hasNightRest(int from, int to) {
            int inARow = 0;
            int minute = from;
            for (int k = 0; k < MOST_STRETCHES && minute < to && inARow < NIGHT_REST; k++) {
                int time = timeOfDay(minute);
                int next = Math.min(to, stretchEnd(minute, time));
                inARow = isNight(time) ? inARow + next - minute : 0;
                minute = next;
            }
            return inARow >= NIGHT_REST;
        }

        /** Up to which minute it stays night, or stays day, by the offset in force at a minute of this time of day. */
        private int stretchEnd(int minute, int time) {
            int edge = DAY + NIGHT_ENDS;
            if (time < NIGHT_ENDS) {
                edge = NIGHT_ENDS;
            } else if (time < NIGHT_BEGINS) {
                edge = NIGHT_BEGINS;
            }
            int end = minute + edge - time;
            return minute < change ? Math.min(end, change) : end;
        }

        private static boolean isNight(int time) {
            return time < NIGHT_ENDS || time >= NIGHT_BEGINS;
        }
    }

    /** A flight, there or not. */
    private static final class Leg {
        boolean there;
        int from;
        int to;
        int departs;
        int arrives;
        int type;

        void set(int newFrom, int newTo, int newDeparts, int newArrives, int newType) {
            there = true;
            from = newFrom;
            to = newTo;
            departs = newDeparts;
            arrives = newArrives;
            type = newType;
        }

        /** Departs and arrives so many minutes later, if that stays within the bounds of time: whether it does. */
        boolean shift(int minutes) {
            if (minutes < -departs || minutes > LAST_MINUTE - arrives) {
                return false;
            }
            departs += minutes;
            arrives += minutes;
            return true;
        }
    }

    /** A crew, there or not, with its bids. */
    private static final class Member {
        boolean there;
        int base;
        int rank;
        int types;
        int flown;
        int offFrom;
        int offTo;
        int bids;
        final int[] kinds = new int[MOST_BIDS];
        final int[] arguments = new int[MOST_BIDS];
        final int[] weights = new int[MOST_BIDS];

        void set(int newBase, int newRank, int newTypes, int newFlown) {
            there = true;
            base = newBase;
            rank = newRank;
            types = newTypes;
            flown = newFlown;
            offFrom = 0;
            offTo = 0;
            bids = 0;
        }

        void addBid(int kind, int argument, int weight) {
            if (bids < MOST_BIDS) {
                kinds[bids] = kind;
                arguments[bids] = argument;
                weights[bids] = weight;
                bids++;
            }
        }

        boolean isOff(int begin, int end) {
            return offFrom < offTo && begin < offTo && offFrom < end;
        }

        /** The least of the rules for a crew alone that a measured row breaks, or 0. */
        int leastOwnBroken(Work work, int mostFlying) {
            if ((work.types & ~types) != 0) {
                return 10;
            }
            if (isOff(work.begin, work.end)) {
                return 11;
            }
            return flown + work.air > mostFlying ? 12 : 0;
        }
    }

    /** All that calls set: stations, flights, crews and rules. */
    private static final class Plan {
        final Clock[] clocks = new Clock[STATIONS];
        final Leg[] legs = new Leg[FLIGHTS];
        final Member[] members = new Member[CREWS];
        final int[] values = FIRST_VALUES.clone();
        final int[][] limits = new int[BANDS][LEG_LIMITS];

        Plan() {
            for (int k = 0; k < STATIONS; k++) {
                clocks[k] = new Clock();
            }
            for (int k = 0; k < FLIGHTS; k++) {
                legs[k] = new Leg();
            }
            for (int k = 0; k < CREWS; k++) {
                members[k] = new Member();
            }
            for (int k = 0; k < BANDS; k++) {
                Arrays.fill(limits[k], FIRST_LIMIT);
            }
        }

        /** The flights that are there, a bit for each. */
        int flightsThere() {
            int flights = 0;
            for (int k = 0; k < FLIGHTS; k++) {
                flights |= legs[k].there ? 1 << k : 0;
            }
            return flights;
        }

        int countMembers() {
            int count = 0;
            for (int k = 0; k < CREWS; k++) {
                count += members[k].there ? 1 : 0;
            }
            return count;
        }

        /** Whether a station is the base of a crew or, for no crew, that of any. */
        boolean isBase(int crew, int station) {
            if (crew != NO_CREW) {
                return members[crew].base == station;
            }
            for (int k = 0; k < CREWS; k++) {
                if (members[k].there && members[k].base == station) {
                    return true;
                }
            }
            return false;
        }

        boolean canFollow(int before, int next) {
            return legs[next].from == legs[before].to
                    && legs[next].departs >= legs[before].arrives + values[TURN];
        }
    }

    /** A row of flights and what it comes to. */
    private static final class Work {
        final int[] row = new int[LONGEST_ROW];
        int size;
        int base;
        int begin;
        int end;
        int air;
        // a bit for each type, and for each flight
        int types;
        int flights;

        void copy(Work other) {
            System.arraycopy(other.row, 0, row, 0, LONGEST_ROW);
            size = other.size;
            base = other.base;
            begin = other.begin;
            end = other.end;
            air = other.air;
            types = other.types;
            flights = other.flights;
        }

        boolean hasFlight(int flight) {
            return (flights & (1 << flight)) != 0;
        }

        boolean touchesDay(int day) {
            return begin < (day + 1) * DAY && day * DAY < end;
        }

        int arrivalsAt(int station, Plan plan) {
            int count = 0;
            for (int k = 0; k < size; k++) {
                count += plan.legs[row[k]].to == station ? 1 : 0;
            }
            return count;
        }
    }

    /** A row of flights that is cut into duties and held against the rules. */
    private static final class Trip {
        final Plan plan;
        final Work whole = new Work();
        int duties;
        // of each duty: the place of its first flight in the row, its beginning, its end
        final int[] firsts = new int[LONGEST_ROW];
        final int[] begins = new int[LONGEST_ROW];
        final int[] ends = new int[LONGEST_ROW];

        Trip(Plan plan) {
            this.plan = plan;
        }

        /** The row ends with this flight at this place. */
        void put(int place, int flight) {
            if (0 <= place && place < LONGEST_ROW) {
                whole.row[place] = flight;
                whole.size = place + 1;
            }
        }

        boolean canBeMeasured() {
            for (int k = 0; k < whole.size; k++) {
                if (!plan.legs[whole.row[k]].there) {
                    return false;
                }
            }
            return whole.size > 0;
        }

        private Leg legAt(int place) {
            return plan.legs[whole.row[place]];
        }

        /** Cuts the row, which is not empty, into duties and sums it up. */
        void measure() {
            duties = 0;
            whole.air = 0;
            whole.types = 0;
            whole.flights = 0;
            for (int k = 0; k < whole.size; k++) {
                Leg leg = legAt(k);
                if (k == 0 || leg.departs - legAt(k - 1).arrives >= plan.values[GAP]) {
                    firsts[duties] = k;
                    begins[duties] = leg.departs - plan.values[REPORT];
                    duties++;
                }
                ends[duties - 1] = leg.arrives + plan.values[RELEASE];
                whole.air += leg.arrives - leg.departs;
                whole.types |= 1 << leg.type;
                whole.flights |= 1 << whole.row[k];
            }
            if (duties > 0) {
                whole.base = legAt(0).from;
                whole.begin = begins[0];
                whole.end = ends[duties - 1];
            }
        }

        private int legsOf(int duty) {
            int next = duty + 1 < duties ? firsts[duty + 1] : whole.size;
            return next - firsts[duty];
        }

        private int lengthOf(int duty) {
            return ends[duty] - begins[duty];
        }

        /** Rows that go against the time have duties of a length below 0. */
        int longestDuty() {
            int longest = lengthOf(0);
            for (int duty = 1; duty < duties; duty++) {
                longest = Math.max(longest, lengthOf(duty));
            }
            return longest;
        }

        /** The least rule that the measured row breaks for a crew or, for no crew, of the rules 1 to 9; or 0. */
        int leastBroken(int crew) {
            if (whole.size == 0 || !plan.isBase(crew, whole.base)) {
                return 1;
            }
            if (!isLinked()) {
                return 2;
            }
            if (hasTooManyLegs()) {
                return 3;
            }
            if (hasTooLongDuty()) {
                return 4;
            }
            if (hasTooShortRest()) {
                return 5;
            }
            if (plan.values[NIGHTS] == 1 && lacksNightRest()) {
                return 6;
            }
            if (duties > plan.values[DUTIES]) {
                return 7;
            }
            if (legAt(whole.size - 1).to != whole.base) {
                return 8;
            }
            if (whole.end - whole.begin > plan.values[AWAY]) {
                return 9;
            }
            return crew == NO_CREW ? 0 : plan.members[crew].leastOwnBroken(whole, plan.values[FLYING]);
        }

        private boolean isLinked() {
            for (int k = 1; k < whole.size; k++) {
                if (!plan.canFollow(whole.row[k - 1], whole.row[k])) {
                    return false;
                }
            }
            return true;
        }

        private boolean hasTooManyLegs() {
            for (int duty = 0; duty < duties; duty++) {
                if (legsOf(duty) > plan.values[LEGS]) {
                    return true;
                }
            }
            return false;
        }

        private boolean hasTooLongDuty() {
            for (int duty = 0; duty < duties; duty++) {
                if (lengthOf(duty) > limitOf(duty)) {
                    return true;
                }
            }
            return false;
        }

        private int limitOf(int duty) {
            int station = legAt(firsts[duty]).from;
            int band = plan.clocks[station].timeOfDay(begins[duty]) / BAND;
            return plan.limits[band][Math.min(legsOf(duty), LEG_LIMITS) - 1];
        }

        private boolean hasTooShortRest() {
            for (int duty = 1; duty < duties; duty++) {
                int due = Math.max(plan.values[REST], lengthOf(duty - 1));
                if (begins[duty] - ends[duty - 1] < due) {
                    return true;
                }
            }
            return false;
        }

        private boolean lacksNightRest() {
            for (int duty = 1; duty < duties; duty++) {
                Clock clock = plan.clocks[legAt(firsts[duty]).from];
                if (!clock.hasNightRest(ends[duty - 1], begins[duty])) {
                    return true;
                }
            }
            return false;
        }
    }

    /** The pairings that are listed. */
    private static final class Listing {
        final Plan plan;
        final Trip draft;
        final Work[] works = new Work[MOST_PAIRINGS];
        // NONE when nothing is listed
        int count = NONE;
        private boolean tooMany;

        Listing(Plan plan) {
            this.plan = plan;
            draft = new Trip(plan);
            for (int k = 0; k < MOST_PAIRINGS; k++) {
                works[k] = new Work();
            }
        }

        void forget() {
            count = NONE;
        }

        void list() {
            count = 0;
            tooMany = false;
            goOn(0);
            if (tooMany) {
                count = NONE;
            }
        }

        /** Lists what goes on from the first so many flights of the draft, by the number of the next flight. */
        private void goOn(int size) {
            if (size >= LONGEST_ROW) {
                return;
            }
            for (int flight = 0; flight < FLIGHTS && !tooMany; flight++) {
                if (canBeNext(size, flight)) {
                    draft.put(size, flight);
                    draft.measure();
                    int broken = draft.leastBroken(NO_CREW);
                    if (broken == 0) {
                        addDraft();
                    }
                    if (canBeMended(broken)) {
                        goOn(size + 1);
                    }
                }
            }
        }

        private boolean canBeNext(int size, int flight) {
            if (!plan.legs[flight].there) {
                return false;
            }
            return size == 0
                    ? plan.isBase(NO_CREW, plan.legs[flight].from)
                    : plan.canFollow(draft.whole.row[size - 1], flight);
        }

        /** More flights may have a higher limit, and may come home; every other broken rule stays broken. */
        private static boolean canBeMended(int broken) {
            return broken == 0 || broken == 4 || broken == 8;
        }

        private void addDraft() {
            if (count < MOST_PAIRINGS) {
                works[count].copy(draft.whole);
                count++;
            } else {
                tooMany = true;
            }
        }
    }

    /** The cover that is taken. */
    private static final class Choice {
        private static final int SETS_OF_FLIGHTS = 1 << FLIGHTS;
        private static final int UNKNOWN = -1;
        // above every price, and far enough below the greatest int to add prices to it
        private static final int NO_PRICE = 1 << 29;

        final Plan plan;
        final Listing listing;
        // the pairings of the cover in rising order; each works a flight that no other one does
        final int[] taken = new int[FLIGHTS];
        // NONE when no cover is taken
        int count = NONE;
        // for each set of flights the least price of pairings that work them, and these pairings
        private final int[] prices = new int[SETS_OF_FLIGHTS];
        private final long[] pickings = new long[SETS_OF_FLIGHTS];

        Choice(Plan plan, Listing listing) {
            this.plan = plan;
            this.listing = listing;
        }

        void forget() {
            count = NONE;
        }

        /** Takes the cover of what is listed: its cost, or NONE if there is none. */
        int choose() {
            int flights = plan.flightsThere();
            Arrays.fill(prices, UNKNOWN);
            int price = cheapest(flights);
            if (price >= NO_PRICE) {
                return NONE;
            }
            take(pickings[flights]);
            return price - plan.values[FEE] * Integer.bitCount(flights);
        }

        /** Minutes, and a fee for each flight: one fee too many for each that is there, the same for all covers. */
        private int priceOf(Work work) {
            return work.end - work.begin + plan.values[FEE] * work.size;
        }

        /** Of two sets of pairings the one with the least pairing by which they differ is the greater number. */
        private static long bitOf(int pairing) {
            return 1L << (MOST_PAIRINGS - 1 - pairing);
        }

        /**
         * The least price of pairings that work these flights. One of them works the first flight: it is tried with
         * the best for the rest, which has a flight less, so that it goes no deeper than there are flights.
         */
        private int cheapest(int flights) {
            if (flights == 0) {
                pickings[0] = 0;
                return 0;
            }
            if (prices[flights] != UNKNOWN) {
                return prices[flights];
            }
            int first = flights & -flights;
            int least = NO_PRICE;
            long picking = 0;
            for (int k = 0; k < listing.count; k++) {
                Work work = listing.works[k];
                int rest = flights & ~work.flights;
                if ((work.flights & first) != 0) {
                    int price = priceOf(work) + cheapest(rest);
                    long picked = bitOf(k) | pickings[rest];
                    if (price < least || (price == least && picked > picking)) {
                        least = price;
                        picking = picked;
                    }
                }
            }
            prices[flights] = least;
            pickings[flights] = picking;
            return least;
        }

        private void take(long picking) {
            count = 0;
            for (int k = 0; k < listing.count && count < FLIGHTS; k++) {
                if ((picking & bitOf(k)) != 0) {
                    taken[count] = k;
                    count++;
                }
            }
        }

        /** The place of a pairing in the cover, or NONE. */
        int placeOf(int pairing) {
            for (int place = 0; place < count; place++) {
                if (taken[place] == pairing) {
                    return place;
                }
            }
            return NONE;
        }
    }

    /** The awards. Pairings are named by their places in the cover, sets of them by a bit for each. */
    private static final class Sharing {
        final Plan plan;
        final Listing listing;
        final Choice choice;
        // what each crew was awarded, by its number
        final int[] shares = new int[CREWS];
        // the crews in the order in which they are served
        private final int[] order = new int[CREWS];
        private int served;
        // by their places in that order: what a crew may work, and what it is given while this is tried out
        private final int[] allowed = new int[CREWS];
        private final int[] held = new int[CREWS];
        // for each pairing those that nobody can work beside it
        private final int[] rivals = new int[FLIGHTS];

        Sharing(Plan plan, Listing listing, Choice choice) {
            this.plan = plan;
            this.listing = listing;
            this.choice = choice;
        }

        void forget() {
            Arrays.fill(shares, 0);
        }

        /** Of two sets the one with the least pairing by which they differ is the greater number. */
        private static int bitOf(int place) {
            return 1 << (FLIGHTS - 1 - place);
        }

        private Work workAt(int place) {
            return listing.works[choice.taken[place]];
        }

        int holderOf(int place) {
            for (int crew = 0; crew < CREWS; crew++) {
                if ((shares[crew] & bitOf(place)) != 0) {
                    return crew;
                }
            }
            return NO_CREW;
        }

        int countShared() {
            int count = 0;
            for (int crew = 0; crew < CREWS; crew++) {
                count += Integer.bitCount(shares[crew]);
            }
            return count;
        }

        /** Awards the cover: whether all of it was. */
        boolean share() {
            forget();
            orderMembers();
            findAllowed();
            findRivals();
            int left = 0;
            for (int place = 0; place < choice.count; place++) {
                left |= bitOf(place);
            }
            for (int k = 0; k < served; k++) {
                int set = bestSet(k, left);
                if (set == NONE) {
                    forget();
                    return false;
                }
                shares[order[k]] = set;
                left &= ~set;
            }
            return left == 0;
        }

        private void orderMembers() {
            served = 0;
            for (int crew = 0; crew < CREWS; crew++) {
                if (plan.members[crew].there) {
                    int k = served;
                    while (k > 0 && plan.members[order[k - 1]].rank < plan.members[crew].rank) {
                        order[k] = order[k - 1];
                        k--;
                    }
                    order[k] = crew;
                    served++;
                }
            }
        }

        private void findAllowed() {
            for (int k = 0; k < served; k++) {
                Member member = plan.members[order[k]];
                allowed[k] = 0;
                for (int place = 0; place < choice.count; place++) {
                    Work work = workAt(place);
                    // the rules 2 to 9 hold for all that is listed
                    if (work.base == member.base && member.leastOwnBroken(work, plan.values[FLYING]) == 0) {
                        allowed[k] |= bitOf(place);
                    }
                }
            }
        }

        private void findRivals() {
            for (int place = 0; place < choice.count; place++) {
                rivals[place] = 0;
                for (int other = 0; other < choice.count; other++) {
                    if (other != place && areRivals(workAt(place), workAt(other))) {
                        rivals[place] |= bitOf(other);
                    }
                }
            }
        }

        private boolean areRivals(Work one, Work other) {
            int rest = plan.values[REST];
            return one.begin < other.end + rest && other.begin < one.end + rest;
        }

        /** The best set of what is left for the crew at a place of the order, or NONE. */
        private int bestSet(int k, int left) {
            int best = NONE;
            int bestValue = 0;
            int open = left & allowed[k];
            for (int set = open; set >= 0; set--) {
                if ((set & ~open) == 0 && fits(k, set)) {
                    int value = valueOf(plan.members[order[k]], set);
                    if ((best == NONE || value > bestValue) && canGiveRest(0, left & ~set, k + 1)) {
                        best = set;
                        bestValue = value;
                    }
                }
            }
            return best;
        }

        /** Whether the crew at a place of the order can work all of a set. */
        private boolean fits(int k, int set) {
            if ((set & ~allowed[k]) != 0) {
                return false;
            }
            int air = 0;
            for (int place = 0; place < choice.count; place++) {
                if ((set & bitOf(place)) != 0) {
                    if ((set & rivals[place]) != 0) {
                        return false;
                    }
                    air += workAt(place).air;
                }
            }
            return set == 0 || plan.members[order[k]].flown + air <= plan.values[FLYING];
        }

        /** Whether what a set has from a place on can be given to the crews from k on, beside what they hold. */
        private boolean canGiveRest(int place, int set, int k) {
            if (place >= choice.count) {
                return true;
            }
            int bit = bitOf(place);
            if ((set & bit) == 0) {
                return canGiveRest(place + 1, set, k);
            }
            for (int j = k; j < served; j++) {
                if (fits(j, held[j] | bit)) {
                    held[j] |= bit;
                    boolean can = canGiveRest(place + 1, set, k);
                    held[j] &= ~bit;
                    if (can) {
                        return true;
                    }
                }
            }
            return false;
        }

        /** The score of a set of pairings by a crew's bids. */
        int valueOf(Member member, int set) {
            int sum = 0;
            for (int k = 0; k < member.bids; k++) {
                sum += member.weights[k] * timesMet(member.kinds[k], member.arguments[k], set);
            }
            return sum;
        }

        private int timesMet(int kind, int argument, int set) {
            int withFlight = 0;
            int arrivals = 0;
            int onDay = 0;
            for (int place = 0; place < choice.count; place++) {
                if ((set & bitOf(place)) != 0) {
                    Work work = workAt(place);
                    withFlight += kind == BID_FLIGHT && work.hasFlight(argument) ? 1 : 0;
                    arrivals += kind == BID_STATION ? work.arrivalsAt(argument, plan) : 0;
                    onDay += kind == BID_DAY && work.touchesDay(argument) ? 1 : 0;
                }
            }
            switch (kind) {
                case BID_FLIGHT:
                    return withFlight > 0 ? 1 : 0;
                case BID_STATION:
                    return arrivals;
                default:
                    return onDay == 0 ? 1 : 0;
            }
        }
    }
}
