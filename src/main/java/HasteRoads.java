/**
 * Haste makes the road: each mile is as long as one is hurried.
 *
 * All rows are made with the object and used again, so that no call makes anything.
 */
public final class HasteRoads {
    public static final int NONE = -1, UNKNOWN = -1000000001, OUTSIDE = -1000000002, NOT = -1000000003, FULL = -1000000004;

    private static final int MOST_LETTERS = 250;
    private static final int MOST_PLACES = 6;
    private static final int MOST_ROADS = 9;
    private static final int MOST_PERSONS = 4;
    private static final int MOST_CALM = 5;
    private static final int MOST_TOOK = 20;
    private static final int MOST_STEPS = 30;
    private static final int IMAGES = 2;
    private static final int LAST_MINUTE = 90000;
    private static final int LAST_MINUTE_OF_DRAWS = 9000;
    private static final int WAITING = -2;

    private static final int CALMS = MOST_CALM + 1;
    private static final int STATES = MOST_PLACES * CALMS;
    private static final int SETS = 1 << MOST_PLACES;
    private static final int NEVER = 1000000000;

    private final World now = new World();
    private final World tried = new World();
    private final World[] images = {new World(), new World()};
    private final boolean[] kept = new boolean[IMAGES];
    private final Text text = new Text();
    private final Search search = new Search(tried);
    private final Message message = new Message(tried, search);
    private final Chase chase = new Chase();
    private final Ledger ledger = new Ledger();
    private final Book book = new Book();
    private final int[] soonestOfFirst = new int[MOST_PLACES];

    public HasteRoads() {
    }

    // ---- the land

    public int feed(int letter) {
        if (outside(letter, 0, 255)) return OUTSIDE;
        return text.add(letter);
    }

    public int land() {
        tried.clear();
        tried.seed = now.seed;
        int fault = text.tell(tried);
        if (fault != 0) return -10 - fault;
        now.become(tried);
        ledger.count = 0;
        book.count = 0;
        for (int i = 0; i < IMAGES; i++) kept[i] = false;
        return now.places;
    }

    public int fault() {
        return text.faultAt;
    }

    public int told(int what) {
        switch (what) {
            case 0: return now.places;
            case 1: return now.roads;
            case 2: return now.persons;
            case 3: return text.length;
            case 4: return now.inns;
            case 5: return now.clocks;
            case 6: return ledger.count;
            case 7: return book.count;
            default: return OUTSIDE;
        }
    }

    public int road(int r, int what) {
        if (!now.hasRoad(r)) return UNKNOWN;
        switch (what) {
            case 0: return now.endA[r];
            case 1: return now.endB[r];
            case 2: return now.miles[r];
            default: return OUTSIDE;
        }
    }

    public int person(int p, int what) {
        if (!now.hasPerson(p)) return UNKNOWN;
        switch (what) {
            case 0: return now.place[p];
            case 1: return now.errand[p];
            case 2: return now.haste[p];
            case 3: return now.calm[p];
            case 4: return now.due[p];
            case 5: return now.load[p];
            case 6: return now.minute[p];
            case 7: return now.hurry(p, now.place[p], now.minute[p]);
            default: return OUTSIDE;
        }
    }

    public int takes(int p, int r, int from, int minute, int s) {
        if (!now.hasPerson(p) || !now.hasRoad(r) || !now.hasPlace(from)) return UNKNOWN;
        if (outside(minute, 0, 99999) || outside(s, 0, MOST_CALM)) return OUTSIDE;
        if (now.otherEnd(r, from) == NONE) return NOT;
        return now.lasts(p, r, from, minute, s);
    }

    // ---- what is done

    public int go(int p, int r, int s) {
        if (!now.hasPerson(p) || !now.hasRoad(r)) return UNKNOWN;
        if (outside(s, 0, MOST_CALM)) return OUTSIDE;
        if (!now.canMove(p, r, s)) return NOT;
        if (now.minute[p] > LAST_MINUTE) return FULL;
        now.move(p, r, s);
        return now.minute[p];
    }

    public int await(int p, int n) {
        if (!now.hasPerson(p)) return UNKNOWN;
        if (outside(n, 1, 999)) return OUTSIDE;
        if (now.minute[p] > LAST_MINUTE) return FULL;
        now.rest(p, n);
        return now.minute[p];
    }

    public int load(int p, int v) {
        if (!now.hasPerson(p)) return UNKNOWN;
        if (outside(v, 0, 9)) return OUTSIDE;
        int was = now.load[p];
        now.load[p] = v;
        return was;
    }

    public int inn(int at, boolean is) {
        if (!now.hasPlace(at)) return UNKNOWN;
        int was = now.inns >> at & 1;
        now.inns = withBit(now.inns, at, is);
        return was;
    }

    public int clock(int at, boolean is) {
        if (!now.hasPlace(at)) return UNKNOWN;
        int was = now.clocks >> at & 1;
        now.clocks = withBit(now.clocks, at, is);
        return was;
    }

    public int miles(int r, int v) {
        if (!now.hasRoad(r)) return UNKNOWN;
        if (outside(v, 1, 20)) return OUTSIDE;
        int was = now.miles[r];
        now.miles[r] = v;
        return was;
    }

    public int drift(int n) {
        if (outside(n, 1, 99)) return OUTSIDE;
        if (now.persons == 0) return NOT;
        for (int i = 0; i < n; i++) now.wander();
        return now.greatestMinute();
    }

    // ---- tried

    public int soonest(int p, int at) {
        if (!now.hasPerson(p) || !now.hasPlace(at)) return UNKNOWN;
        tried.become(now);
        search.explore(p, 0, at);
        return search.soonestAt(at);
    }

    public int step(int p, int i) {
        if (!now.hasPerson(p)) return UNKNOWN;
        if (outside(i, 0, 99)) return OUTSIDE;
        tried.become(now);
        return search.stepAt(p, i);
    }

    public int latest(int p) {
        if (!now.hasPerson(p)) return UNKNOWN;
        tried.become(now);
        search.lookBack(p, now.due[p]);
        int latest = search.latestAt(now.place[p], now.calm[p]);
        return latest < now.minute[p] ? NONE : latest;
    }

    public int inns(int what) {
        if (outside(what, 0, 1)) return OUTSIDE;
        tried.become(now);
        int set = fewestInns();
        return what == 0 && set != NONE ? Integer.bitCount(set) : set;
    }

    public int relay(int from, int to, int what) {
        if (!now.hasPlace(from) || !now.hasPlace(to) || from == to) return UNKNOWN;
        if (outside(what, 0, 1)) return OUTSIDE;
        tried.become(now);
        message.carry(from);
        return what == 0 ? message.minuteAt(to) : message.carriersTo(to);
    }

    public int meet(int p, int q, int what) {
        if (!now.hasPerson(p) || !now.hasPerson(q) || p == q) return UNKNOWN;
        if (outside(what, 0, 1)) return OUTSIDE;
        tried.become(now);
        search.explore(p, 0, NONE);
        for (int at = 0; at < now.places; at++) soonestOfFirst[at] = search.soonestAt(at);
        search.explore(q, 0, NONE);
        int best = NONE;
        int bestAt = NONE;
        for (int at = 0; at < now.places; at++) {
            int second = search.soonestAt(at);
            if (soonestOfFirst[at] == NONE || second == NONE) continue;
            int both = Math.max(soonestOfFirst[at], second);
            if (bestAt == NONE || both < best) {
                best = both;
                bestAt = at;
            }
        }
        return what == 0 ? best : bestAt;
    }

    public int cost(int at) {
        if (!now.hasPlace(at)) return UNKNOWN;
        tried.become(now);
        tried.clocks = withBit(now.clocks, at, false);
        int without = search.allTogether();
        if (without == NONE) return NONE;
        tried.clocks = withBit(now.clocks, at, true);
        return search.allTogether() - without;
    }

    public int shorter(int what) {
        if (outside(what, 0, 1)) return OUTSIDE;
        tried.become(now);
        int before = search.allTogether();
        if (before == NONE) return NONE;
        int best = NONE;
        int most = NONE;
        for (int r = 0; r < now.roads; r++) {
            if (now.miles[r] < 2) continue;
            tried.miles[r] = now.miles[r] - 1;
            int gain = before - search.allTogether();
            tried.miles[r] = now.miles[r];
            if (gain > most) {
                most = gain;
                best = r;
            }
        }
        return what == 0 ? best : most;
    }

    public int lend(int p, int q, int k) {
        if (!now.hasPerson(p) || !now.hasPerson(q) || p == q) return UNKNOWN;
        if (outside(k, 0, MOST_CALM)) return OUTSIDE;
        if (now.place[p] != now.place[q] || now.calm[p] < k) return NOT;
        tried.become(now);
        int before = search.soonestAtErrand(q);
        if (before == NONE) return NONE;
        tried.calm[q] = Math.min(MOST_CALM, now.calm[q] + k);
        return before - search.soonestAtErrand(q);
    }

    public int guard(int thief, int guard) {
        if (!now.hasPlace(thief) || !now.hasPlace(guard)) return UNKNOWN;
        return chase.turns(now, thief, guard);
    }

    public int round(int p, int set) {
        if (!now.hasPerson(p) || outside(set, 0, now.allPlaces())) return UNKNOWN;
        tried.become(now);
        search.explore(p, set, NONE);
        return search.soonestWith(set);
    }

    // ---- what was told

    public int took(int p, int r, int from, int minute, int minutes) {
        if (!now.hasPerson(p) || !now.hasRoad(r) || !now.hasPlace(from)) return UNKNOWN;
        if (outside(minute, 0, 999) || outside(minutes, 1, 999)) return OUTSIDE;
        if (now.otherEnd(r, from) == NONE) return NOT;
        return ledger.add(p, r, from, minute, minutes);
    }

    public int spent(int i) {
        return outside(i, 0, ledger.count - 1) ? NONE : ledger.spentIn(now, i);
    }

    public int lie() {
        for (int i = 0; i < ledger.count; i++) {
            if (ledger.spentIn(now, i) == 0) return i;
        }
        return NONE;
    }

    public int write(int step) {
        if (step >= 0 && !now.hasRoad(step / 10)) return UNKNOWN;
        if (step < 0 && step != WAITING || step % 10 > MOST_CALM) return OUTSIDE;
        return book.add(step);
    }

    public int tear() {
        int had = ledger.count + book.count;
        ledger.count = 0;
        book.count = 0;
        return had;
    }

    public int judge(int p, int what) {
        if (!now.hasPerson(p)) return UNKNOWN;
        if (outside(what, 0, 1)) return OUTSIDE;
        tried.become(now);
        int wrong = book.follow(tried, p);
        return what == 0 ? wrong : tried.minute[p];
    }

    // ---- images

    public int seed(int v) {
        if (v < 0) return OUTSIDE;
        int was = now.seed;
        now.seed = v;
        return was;
    }

    public int keep(int i) {
        if (outside(i, 0, IMAGES - 1)) return UNKNOWN;
        images[i].become(now);
        kept[i] = true;
        return 1;
    }

    public int goBack(int i) {
        if (outside(i, 0, IMAGES - 1)) return UNKNOWN;
        if (!kept[i]) return NOT;
        now.become(images[i]);
        return 1;
    }

    private static boolean outside(int value, int least, int most) {
        return value < least || value > most;
    }

    private static int withBit(int set, int bit, boolean is) {
        return is ? set | 1 << bit : set & ~(1 << bit);
    }

    /** The least SET of the fewest INNS by which all are in time, or NONE. */
    private int fewestInns() {
        int all = now.allPlaces();
        // An INN more never makes anybody later: if all of them do not do, none do.
        if (!allInTimeWith(all)) return NONE;
        for (int size = 0; size <= now.places; size++) {
            for (int set = 0; set <= all; set++) {
                if (Integer.bitCount(set) == size && allInTimeWith(set)) return set;
            }
        }
        return NONE;
    }

    private boolean allInTimeWith(int inns) {
        tried.inns = inns;
        for (int p = 0; p < now.persons; p++) {
            search.explore(p, 0, now.errand[p]);
            int there = search.soonestAt(now.errand[p]);
            if (there == NONE || there > now.due[p]) return false;
        }
        return true;
    }

    /** THE LAND and all that changes in it: what is so, what is TRIED and each IMAGE is one of these. */
    private static final class World {
        int places;
        int roads;
        int persons;
        int inns;
        int clocks;
        int seed;
        final int[] endA = new int[MOST_ROADS];
        final int[] endB = new int[MOST_ROADS];
        final int[] miles = new int[MOST_ROADS];
        final int[] errand = new int[MOST_PERSONS];
        final int[] haste = new int[MOST_PERSONS];
        final int[] due = new int[MOST_PERSONS];
        final int[] place = new int[MOST_PERSONS];
        final int[] calm = new int[MOST_PERSONS];
        final int[] load = new int[MOST_PERSONS];
        final int[] minute = new int[MOST_PERSONS];

        /** THE SEED stays. */
        void clear() {
            places = 0;
            roads = 0;
            persons = 0;
            inns = 0;
            clocks = 0;
        }

        void become(World other) {
            places = other.places;
            roads = other.roads;
            persons = other.persons;
            inns = other.inns;
            clocks = other.clocks;
            seed = other.seed;
            System.arraycopy(other.endA, 0, endA, 0, MOST_ROADS);
            System.arraycopy(other.endB, 0, endB, 0, MOST_ROADS);
            System.arraycopy(other.miles, 0, miles, 0, MOST_ROADS);
            System.arraycopy(other.errand, 0, errand, 0, MOST_PERSONS);
            System.arraycopy(other.haste, 0, haste, 0, MOST_PERSONS);
            System.arraycopy(other.due, 0, due, 0, MOST_PERSONS);
            System.arraycopy(other.place, 0, place, 0, MOST_PERSONS);
            System.arraycopy(other.calm, 0, calm, 0, MOST_PERSONS);
            System.arraycopy(other.load, 0, load, 0, MOST_PERSONS);
            System.arraycopy(other.minute, 0, minute, 0, MOST_PERSONS);
        }

        boolean hasPlace(int at) {
            return at >= 0 && at < places;
        }

        boolean hasRoad(int r) {
            return r >= 0 && r < roads;
        }

        boolean hasPerson(int p) {
            return p >= 0 && p < persons;
        }

        boolean hasInn(int at) {
            return (inns >> at & 1) == 1;
        }

        int allPlaces() {
            return (1 << places) - 1;
        }

        /** NONE: the ROAD does not lead from there. */
        int otherEnd(int r, int at) {
            if (endA[r] == at) return endB[r];
            return endB[r] == at ? endA[r] : NONE;
        }

        int hurry(int p, int at, int leaving) {
            int left = due[p] - leaving;
            int hurry = haste[p] + load[p] + (clocks >> at & 1);
            if (left < 10) hurry++;
            if (left < 0) hurry += 2;
            return hurry;
        }

        int lasts(int p, int r, int at, int leaving, int s) {
            return lastsHurried(r, Math.max(0, hurry(p, at, leaving) - s));
        }

        int lastsHurried(int r, int hurry) {
            return (miles[r] * (2 + hurry) + 1) / 2;
        }

        boolean canMove(int p, int r, int s) {
            return otherEnd(r, place[p]) != NONE && s <= calm[p];
        }

        void move(int p, int r, int s) {
            minute[p] += lasts(p, r, place[p], minute[p], s);
            calm[p] -= s;
            place[p] = otherEnd(r, place[p]);
        }

        void rest(int p, int n) {
            minute[p] += n;
            calm[p] = calmAfter(place[p], calm[p], n);
        }

        int calmAfter(int at, int before, int n) {
            return hasInn(at) ? Math.min(MOST_CALM, before + n) : before;
        }

        /** One of the n times of BY DRAWS. */
        void wander() {
            int p = draw(persons);
            if (!hasPerson(p) || minute[p] > LAST_MINUTE_OF_DRAWS) return;
            int ways = waysFrom(place[p]);
            int way = draw(ways + 1);
            if (way == ways) {
                rest(p, 1);
                return;
            }
            int r = roadOfWay(place[p], way);
            if (r != NONE) move(p, r, draw(calm[p] + 1));
        }

        private int draw(int n) {
            seed = (int) (seed * 1103515245L + 12345L & 2147483647L);
            return n < 1 ? 0 : seed / 65536 % n;
        }

        private int waysFrom(int at) {
            int ways = 0;
            for (int r = 0; r < roads; r++) {
                if (otherEnd(r, at) != NONE) ways++;
            }
            return ways;
        }

        private int roadOfWay(int at, int way) {
            int ahead = way;
            for (int r = 0; r < roads; r++) {
                if (otherEnd(r, at) == NONE) continue;
                if (ahead == 0) return r;
                ahead--;
            }
            return NONE;
        }

        int greatestMinute() {
            int greatest = 0;
            for (int p = 0; p < persons; p++) greatest = Math.max(greatest, minute[p]);
            return greatest;
        }
    }

    /** THE TEXT, and how a World is told by it. */
    private static final class Text {
        private final int[] letters = new int[MOST_LETTERS];
        int length;
        int faultAt = NONE;
        private int fault;
        private int next;
        private int numberAt;

        int add(int letter) {
            if (length >= MOST_LETTERS) return FULL;
            letters[length] = letter;
            length++;
            return length;
        }

        /** The number of the first FAULT, 0 if there is none; the letters are gone then. */
        int tell(World world) {
            fault = 0;
            faultAt = NONE;
            next = 0;
            passBlanks();
            // Each clause has a letter at least.
            for (int clause = 0; clause < MOST_LETTERS && fault == 0 && next < length; clause++) {
                tellClause(world);
                passBlanks();
            }
            length = 0;
            return fault;
        }

        // FAULTS are met in the order of their letters, and at one letter the least first: the first one stays.
        private void blame(int number, int at) {
            if (fault != 0) return;
            fault = number;
            faultAt = at;
        }

        private void passBlanks() {
            while (next < length && letters[next] == ' ') next++;
        }

        private void tellClause(World world) {
            int word = letters[next];
            int wordAt = next;
            next++;
            switch (word) {
                case 'p':
                    tellPlace(world, wordAt);
                    break;
                case 'r':
                    tellRoad(world, wordAt);
                    break;
                case 'm':
                    tellPerson(world, wordAt);
                    break;
                case 'c':
                    tellClock(world);
                    break;
                default:
                    blame(1, wordAt);
            }
            if (fault == 0) passEnd();
        }

        private void passEnd() {
            passBlanks();
            if (next < length && letters[next] == ';') {
                next++;
            } else {
                blame(1, next);
            }
        }

        private void tellPlace(World world, int wordAt) {
            if (world.places >= MOST_PLACES) blame(3, wordAt);
            int inn = number(0, 1);
            if (fault != 0) return;
            world.inns = withBit(world.inns, world.places, inn == 1);
            world.places++;
        }

        private void tellRoad(World world, int wordAt) {
            if (world.roads >= MOST_ROADS) blame(3, wordAt);
            int a = number(0, world.places - 1);
            int b = number(0, world.places - 1);
            if (a == b) blame(4, numberAt);
            int miles = number(1, 20);
            if (fault != 0) return;
            world.endA[world.roads] = a;
            world.endB[world.roads] = b;
            world.miles[world.roads] = miles;
            world.roads++;
        }

        private void tellPerson(World world, int wordAt) {
            if (world.persons >= MOST_PERSONS) blame(3, wordAt);
            int place = number(0, world.places - 1);
            int errand = number(0, world.places - 1);
            int haste = number(0, 9);
            int calm = number(0, MOST_CALM);
            int due = number(0, 999);
            if (fault != 0) return;
            int p = world.persons;
            world.place[p] = place;
            world.errand[p] = errand;
            world.haste[p] = haste;
            world.calm[p] = calm;
            world.due[p] = due;
            world.load[p] = 0;
            world.minute[p] = 0;
            world.persons++;
        }

        private void tellClock(World world) {
            int at = number(0, world.places - 1);
            if (fault != 0) return;
            if ((world.clocks >> at & 1) == 1) blame(4, numberAt);
            world.clocks |= 1 << at;
        }

        /** 0 once there is a FAULT. */
        private int number(int least, int most) {
            if (fault != 0) return 0;
            passBlanks();
            numberAt = next;
            int value = 0;
            while (next < length && isFigure(letters[next])) {
                // Figures behind the third make it a FAULT whatever they are.
                if (next - numberAt < 3) value = value * 10 + letters[next] - '0';
                next++;
            }
            int figures = next - numberAt;
            if (figures == 0) blame(1, numberAt);
            if (figures > 3 || outside(value, least, most)) blame(2, numberAt);
            return fault == 0 ? value : 0;
        }

        private static boolean isFigure(int letter) {
            return letter >= '0' && letter <= '9';
        }
    }

    /**
     * Least and greatest MINUTES over PLACES and CALM.
     *
     * Who leaves later with the same CALM comes strictly later, and CALM more never harms. So of each PLACE and CALM
     * one MINUTE is enough, the least one (or, looking back from a goal, the greatest one).
     */
    private static final class Search {
        private final World world;
        private final int[] soonest = new int[SETS * STATES];
        private final int[] latest = new int[STATES];
        private final boolean[] settled = new boolean[STATES];
        private final int[] calmest = new int[MOST_PLACES];

        Search(World world) {
            this.world = world;
        }

        /**
         * Finds the least MINUTES of each layer: the PLACES of the SET where the PERSON has been (one layer: set 0).
         * Only what is sooner than the goal, a PLACE, is looked at; NONE: all.
         */
        void explore(int p, int set, int goal) {
            int states = (set + 1) * STATES;
            for (int i = 0; i < states; i++) soonest[i] = NEVER;
            int start = world.place[p];
            int first = set & 1 << start;
            soonest[first * STATES + start * CALMS + world.calm[p]] = world.minute[p];
            for (int layer = first; layer <= set; layer++) {
                if ((layer | set) == set) settleLayer(p, set, layer, goal);
            }
        }

        int soonestAt(int at) {
            int least = NEVER;
            for (int calm = 0; calm < CALMS; calm++) least = Math.min(least, soonest[at * CALMS + calm]);
            return least == NEVER ? NONE : least;
        }

        int soonestWith(int layer) {
            int least = NEVER;
            for (int state = 0; state < STATES; state++) least = Math.min(least, soonest[layer * STATES + state]);
            return least == NEVER ? NONE : least;
        }

        int soonestAtErrand(int p) {
            explore(p, 0, world.errand[p]);
            return soonestAt(world.errand[p]);
        }

        /** The MINUTES at which all can be at their ERRANDS, added; NONE: somebody never is. */
        int allTogether() {
            int sum = 0;
            for (int p = 0; p < world.persons; p++) {
                int minute = soonestAtErrand(p);
                if (minute == NONE) return NONE;
                sum += minute;
            }
            return sum;
        }

        private void settleLayer(int p, int set, int layer, int goal) {
            for (int state = 0; state < STATES; state++) settled[state] = false;
            for (int at = 0; at < MOST_PLACES; at++) calmest[at] = NONE;
            for (int turn = 0; turn < STATES; turn++) {
                int state = nearest(layer * STATES);
                if (state == NONE) return;
                settled[state] = true;
                int at = state / CALMS;
                int calm = state % CALMS;
                if (at == goal) return;
                // Who was there no later and no less calm does all that this one could.
                if (calm <= calmest[at]) continue;
                calmest[at] = calm;
                spread(p, set, layer, state);
            }
        }

        private int nearest(int base) {
            int best = NONE;
            int least = NEVER;
            int states = world.places * CALMS;
            for (int state = 0; state < states; state++) {
                if (!settled[state] && soonest[base + state] < least) {
                    least = soonest[base + state];
                    best = state;
                }
            }
            return best;
        }

        private void spread(int p, int set, int layer, int state) {
            int at = state / CALMS;
            int calm = state % CALMS;
            int minute = soonest[layer * STATES + state];
            if (world.hasInn(at) && calm < MOST_CALM) reach(layer, at, calm + 1, minute + 1);
            int hurry = world.hurry(p, at, minute);
            for (int r = 0; r < world.roads; r++) {
                int other = world.otherEnd(r, at);
                if (other == NONE) continue;
                int toLayer = layer | set & 1 << other;
                // To spend more than the HURRY shortens nothing.
                for (int s = 0; s <= calm && s <= hurry; s++) {
                    reach(toLayer, other, calm - s, minute + world.lastsHurried(r, hurry - s));
                }
            }
        }

        private void reach(int layer, int at, int calm, int minute) {
            int i = layer * STATES + at * CALMS + calm;
            if (minute < soonest[i]) soonest[i] = minute;
        }

        /** Finds the greatest MINUTES from which the PERSON can be at its ERRAND at a minute or sooner. */
        void lookBack(int p, int goal) {
            for (int state = 0; state < STATES; state++) {
                latest[state] = state / CALMS == world.errand[p] ? goal : -NEVER;
                settled[state] = false;
            }
            for (int turn = 0; turn < STATES; turn++) {
                int state = lastUnsettled();
                if (state == NONE) return;
                settled[state] = true;
                spreadBack(p, state);
            }
        }

        /** Far below 0: never. */
        int latestAt(int at, int calm) {
            return latest[at * CALMS + calm];
        }

        private int lastUnsettled() {
            int best = NONE;
            int most = -NEVER;
            for (int state = 0; state < STATES; state++) {
                if (!settled[state] && latest[state] > most) {
                    most = latest[state];
                    best = state;
                }
            }
            return best;
        }

        private void spreadBack(int p, int state) {
            int at = state / CALMS;
            int calm = state % CALMS;
            int minute = latest[state];
            if (world.hasInn(at) && calm > 0) reachBack(at, calm - 1, minute - 1);
            for (int r = 0; r < world.roads; r++) {
                int from = world.otherEnd(r, at);
                if (from == NONE) continue;
                for (int s = 0; calm + s <= MOST_CALM; s++) {
                    reachBack(from, calm + s, leavesBy(p, r, from, s, minute));
                }
            }
        }

        private void reachBack(int at, int calm, int minute) {
            int i = at * CALMS + calm;
            if (minute > latest[i]) latest[i] = minute;
        }

        // How long a ROAD takes changes with the minute only where few are left till T, and where it is late.
        private int leavesBy(int p, int r, int from, int s, int arrives) {
            int due = world.due[p];
            int late = arrives - world.lasts(p, r, from, due + 1, s);
            if (late > due) return late;
            int fewLeft = Math.min(due, arrives - world.lasts(p, r, from, due, s));
            if (fewLeft > due - 10) return fewLeft;
            return Math.min(due - 10, arrives - world.lasts(p, r, from, due - 10, s));
        }

        /** STEP i of SOONEST to the ERRAND; the PERSON of the World that is TRIED is moved on by those ahead of it. */
        int stepAt(int p, int i) {
            int goal = soonestAtErrand(p);
            if (goal == NONE) return NONE;
            lookBack(p, goal);
            for (int ahead = 0; ahead < i; ahead++) {
                int step = firstStep(p);
                if (step == NONE) return NONE;
                if (step == WAITING) {
                    world.rest(p, 1);
                } else {
                    world.move(p, step / 10, step % 10);
                }
            }
            return firstStep(p);
        }

        /** The first of the steps from where it is that still lead to the goal of lookBack; NONE: it is there. */
        private int firstStep(int p) {
            int at = world.place[p];
            int calm = world.calm[p];
            int minute = world.minute[p];
            if (at == world.errand[p]) return NONE;
            if (minute + 1 <= latestAt(at, world.calmAfter(at, calm, 1))) return WAITING;
            for (int r = 0; r < world.roads; r++) {
                int other = world.otherEnd(r, at);
                if (other == NONE) continue;
                for (int s = 0; s <= calm; s++) {
                    if (minute + world.lasts(p, r, at, minute, s) <= latestAt(other, calm - s)) return 10 * r + s;
                }
            }
            return NONE;
        }
    }

    /** RELAY: who carries later from a PLACE comes later everywhere, so each PERSON takes it on as soon as it comes. */
    private static final class Message {
        private final World world;
        private final Search search;
        private final int[] minute = new int[MOST_PLACES];
        private final int[] carriers = new int[MOST_PLACES];
        private final boolean[] settled = new boolean[MOST_PLACES];

        Message(World world, Search search) {
            this.world = world;
            this.search = search;
        }

        void carry(int from) {
            for (int at = 0; at < MOST_PLACES; at++) {
                minute[at] = NEVER;
                carriers[at] = 0;
                settled[at] = false;
            }
            minute[from] = 0;
            for (int turn = 0; turn < world.places; turn++) {
                int at = nearest();
                if (at == NONE) return;
                settled[at] = true;
                for (int p = 0; p < world.persons; p++) {
                    if (world.place[p] == at) takeOn(p, at);
                }
            }
        }

        int minuteAt(int at) {
            return minute[at] == NEVER ? NONE : minute[at];
        }

        int carriersTo(int at) {
            return minute[at] == NEVER ? NONE : carriers[at];
        }

        private int nearest() {
            int best = NONE;
            int least = NEVER;
            for (int at = 0; at < world.places; at++) {
                if (!settled[at] && minute[at] < least) {
                    least = minute[at];
                    best = at;
                }
            }
            return best;
        }

        private void takeOn(int p, int at) {
            world.minute[p] = minute[at];
            search.explore(p, 0, NONE);
            for (int to = 0; to < world.places; to++) {
                int there = search.soonestAt(to);
                if (settled[to] || there == NONE) continue;
                if (there < minute[to] || there == minute[to] && carriers[at] + 1 < carriers[to]) {
                    minute[to] = there;
                    carriers[to] = carriers[at] + 1;
                }
            }
        }
    }

    /** GUARD and thief: of each PLACE of the thief, who goes first, the PLACES of a guard that has it in so many turns. */
    private static final class Chase {
        private final int[] near = new int[MOST_PLACES];
        private final int[] caught = new int[MOST_PLACES];
        private final int[] catching = new int[MOST_PLACES];

        int turns(World world, int thief, int guard) {
            begin(world);
            if (thief == guard) return 0;
            for (int turns = 1; turns <= STATES; turns++) {
                lookOn(world.places);
                if ((caught[thief] >> guard & 1) == 1) return turns;
            }
            return NONE;
        }

        private void begin(World world) {
            for (int at = 0; at < MOST_PLACES; at++) {
                near[at] = 1 << at;
                caught[at] = 1 << at;
            }
            for (int r = 0; r < world.roads; r++) {
                near[world.endA[r]] |= 1 << world.endB[r];
                near[world.endB[r]] |= 1 << world.endA[r];
            }
        }

        private void lookOn(int places) {
            for (int thief = 0; thief < places; thief++) {
                catching[thief] = 0;
                for (int guard = 0; guard < places; guard++) {
                    if ((near[guard] & caught[thief]) != 0) catching[thief] |= 1 << guard;
                }
            }
            for (int thief = 0; thief < places; thief++) {
                int whatever = (1 << places) - 1;
                for (int to = 0; to < places; to++) {
                    if ((near[thief] >> to & 1) == 1) whatever &= catching[to];
                }
                caught[thief] |= whatever;
            }
        }
    }

    /** What was told of TOOK. */
    private static final class Ledger {
        int count;
        private final int[] person = new int[MOST_TOOK];
        private final int[] road = new int[MOST_TOOK];
        private final int[] from = new int[MOST_TOOK];
        private final int[] minute = new int[MOST_TOOK];
        private final int[] minutes = new int[MOST_TOOK];

        int add(int p, int r, int at, int leaving, int lasted) {
            if (count >= MOST_TOOK) return FULL;
            person[count] = p;
            road[count] = r;
            from[count] = at;
            minute[count] = leaving;
            minutes[count] = lasted;
            count++;
            return count;
        }

        int spentIn(World world, int i) {
            int set = 0;
            for (int s = 0; s <= MOST_CALM; s++) {
                if (world.lasts(person[i], road[i], from[i], minute[i], s) == minutes[i]) set |= 1 << s;
            }
            return set;
        }
    }

    /** THE BOOK. */
    private static final class Book {
        int count;
        private final int[] steps = new int[MOST_STEPS];

        int add(int step) {
            if (count >= MOST_STEPS) return FULL;
            steps[count] = step;
            count++;
            return count;
        }

        /** Moves a PERSON by the steps up to the first that cannot be, and answers which one that is. */
        int follow(World world, int p) {
            for (int i = 0; i < count; i++) {
                int step = steps[i];
                if (step == WAITING) {
                    world.rest(p, 1);
                } else if (world.canMove(p, step / 10, step % 10)) {
                    world.move(p, step / 10, step % 10);
                } else {
                    return i;
                }
            }
            return NONE;
        }
    }
}
