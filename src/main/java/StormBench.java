import java.util.Arrays;

/** A bench for a row of services that ask one another; the document's numbered promises say what each call answers. */
public final class StormBench {
    public static final int NONE = -1, FULL = -2, STATE = -3, NEVER = -4;

    private static final int MOST_SERVICES = 6;
    private static final int MOST_ROOM = 20;
    private static final int MOST_JOBS = 120;
    private static final int MOST_GUESTS = 100;
    private static final int MOST_TELLINGS = 40;
    private static final int MOST_TOLD = 30;
    private static final int MOST_PERIOD = 12;
    private static final int MOST_USUAL = 5;
    private static final int KEYS = 8;
    private static final int LAST_TICK = 100000;
    private static final int MOST_TICKS_A_CALL = 500;

    private static final int STILL_TICKS = 24;
    private static final int MOST_TRIED_TICKS = 400;
    private static final int MOST_TRIED_AGAIN = 3;
    private static final int MOST_TRIED_PAUSE = 3;

    /** Rules of a service, numbered as rule() and ruleOf() number them. */
    private static final int TIMEOUT = 0, AGAIN = 1, PAUSE = 2, KEEP = 3, SICK = 4;
    private static final int REST = 5, OLDEST = 6, HANDS = 7, WORK = 8, ROOM = 9;
    private static final int RULES = 10;
    private static final int[] LEAST_OF_RULE = {1, 0, 0, 0, 0, 1, 0, 1, 1, 0};
    private static final int[] MOST_OF_RULE = {40, 4, 9, 60, 9, 60, 1, 9, 9, 20};
    private static final int[] FIRST_OF_RULE = {10, 0, 1, 0, 0, 10, 0, 1, 1, 0};

    /** What a service counts; about() tells them in this order, from FIRST_TALLY on. */
    private static final int HITS = 0, BEGUN = 1, GOOD = 2, BAD = 3, REFUSED = 4, FOR_NOBODY = 5, FAILS = 6;
    private static final int TALLIES = 7;
    private static final int FIRST_TALLY = 6;

    /** States of a job, as job() tells them; GONE is no state of the document's. */
    private static final int WAITS = 0, WORKS = 1, ASKS = 2, PAUSES = 3, GONE = -1;

    /** A caller is a job's place, or FIRST_GUEST and a guest's place, or nobody. */
    private static final int NOBODY = -1;
    private static final int FIRST_GUEST = 1000;

    private final House house = new House();
    /** What would be is tried here, so that the house itself stays as it is. */
    private final House trial = new House();
    private int latestPrice = 0;

    public StormBench() {
    }

    public int service(int hands, int room, int work) {
        if (!isRule(HANDS, hands) || !isRule(ROOM, room) || !isRule(WORK, work)) {
            return NONE;
        }
        if (house.serviceCount >= MOST_SERVICES) {
            return FULL;
        }
        if (house.tick != 0) {
            return STATE;
        }
        return house.addService(hands, room, work);
    }

    public int rule(int service, int what, int v) {
        if (!isService(service) || !within(what, TIMEOUT, WORK) || !isRule(what, v)) {
            return NONE;
        }
        int before = house.services[service].rules[what];
        house.services[service].rules[what] = v;
        return before;
    }

    public int guests(int what, int v) {
        int before;
        if (what == 0 && within(v, 1, 60)) {
            before = house.people.patience;
            house.people.patience = v;
        } else if (what == 1 && within(v, 0, 3)) {
            before = house.people.mostAgain;
            house.people.mostAgain = v;
        } else {
            before = NONE;
        }
        return before;
    }

    public int crowd(int tick, int key, int many) {
        if (tick <= house.tick || tick > LAST_TICK || !isKey(key) || !within(many, 1, MOST_TOLD)) {
            return NONE;
        }
        if (house.tellings.size >= MOST_TELLINGS) {
            return FULL;
        }
        house.tellings.add(tick, key, many);
        return house.tellings.size;
    }

    public int usual(int period) {
        if (!within(period, 1, MOST_PERIOD)) {
            return NONE;
        }
        house.regulars.begin(period);
        return 1;
    }

    public int place(int place, int key, int many) {
        if (!within(place, 0, house.regulars.period - 1) || !isKey(key) || !within(many, 0, MOST_USUAL)) {
            return NONE;
        }
        house.regulars.keys[place] = key;
        house.regulars.many[place] = many;
        return 1;
    }

    public int ticks(int n) {
        if (!within(n, 1, MOST_TICKS_A_CALL) || house.tick + n > LAST_TICK) {
            return NONE;
        }
        if (house.serviceCount == 0) {
            return STATE;
        }
        for (int i = 0; i < n; i++) {
            house.step();
        }
        return house.tick;
    }

    // ---- what there is

    public int about(int service, int what) {
        if (!isService(service) || !within(what, 0, FIRST_TALLY + TALLIES - 1)) {
            return NONE;
        }
        Service s = house.services[service];
        if (what >= FIRST_TALLY) {
            return s.tallies[what - FIRST_TALLY];
        }
        switch (what) {
            case 4:
                return s.rests(house.tick) ? s.restTill : -1;
            case 5:
                return s.failRow;
            default:
                // The first four are numbered as the states of a job are.
                return house.jobs.howMany(service, what);
        }
    }

    public int ruleOf(int service, int what) {
        if (!isService(service) || !within(what, TIMEOUT, ROOM)) {
            return NONE;
        }
        return house.services[service].rules[what];
    }

    public int kept(int service, int key) {
        if (!isService(service) || !isKey(key)) {
            return NONE;
        }
        Service s = house.services[service];
        return s.hasAnswer(key, house.tick) ? s.keptTill[key] : NEVER;
    }

    public int job(int i, int what) {
        Jobs jobs = house.jobs;
        int place = jobs.line.placeAt(i);
        if (place == NOBODY) {
            return NONE;
        }
        switch (what) {
            case 0:
                return jobs.number[place];
            case 1:
                return jobs.service[place];
            case 2:
                return jobs.key[place];
            case 3:
                return jobs.state[place];
            case 4:
                return callerOf(place);
            case 5:
                return jobs.till[place];
            case 6:
                return jobs.again[place];
            default:
                return NONE;
        }
    }

    public int row(int service, int i) {
        if (!isService(service) || !within(i, 0, house.services[service].waiting - 1)) {
            return NONE;
        }
        return house.jobs.number[house.services[service].queue[i]];
    }

    public int guest(int i, int what) {
        Guests people = house.people;
        int place = people.line.placeAt(i);
        if (place == NOBODY) {
            return NONE;
        }
        switch (what) {
            case 0:
                return people.key[place];
            case 1:
                return people.job[place] == NOBODY ? STATE : house.jobs.number[people.job[place]];
            case 2:
                return people.deadline[place];
            case 3:
                return people.again[place];
            default:
                return NONE;
        }
    }

    public int count(int what) {
        switch (what) {
            case 0:
                return house.serviceCount;
            case 1:
                return house.tick;
            case 2:
                return house.jobs.line.size;
            case 3:
                return house.people.line.size;
            case 4:
                return house.people.came;
            case 5:
                return house.people.served;
            case 6:
                return house.people.lost;
            case 7:
                return house.people.timesAgain;
            case 8:
                return house.forNobody;
            case 9:
                return house.tellings.size;
            case 10:
                return house.jobs.came;
            case 11:
                return house.still ? 1 : 0;
            default:
                return NONE;
        }
    }

    // ---- what would be

    public int rest(int n) {
        if (!isTriable(n)) {
            return NONE;
        }
        if (house.serviceCount == 0) {
            return STATE;
        }
        beginTrial(0, 0);
        return firstOfRest(n, false);
    }

    public int bears(int key, int n) {
        if (!isKey(key) || !isTriable(n)) {
            return NONE;
        }
        if (house.serviceCount == 0) {
            return STATE;
        }
        int borne = NEVER;
        for (int many = 0; many <= MOST_TOLD; many++) {
            beginTrial(key, many);
            if (firstOfRest(n, false) == NEVER) {
                break;
            }
            borne = many;
        }
        return borne;
    }

    public int best(int service, int key, int many, int n) {
        if (!isService(service) || !isKey(key) || !within(many, 0, MOST_TOLD) || !isTriable(n)) {
            return NONE;
        }
        int found = NEVER;
        int leastPrice = 0;
        for (int again = 0; again <= MOST_TRIED_AGAIN; again++) {
            for (int pause = 0; pause <= MOST_TRIED_PAUSE; pause++) {
                beginTrial(key, many);
                trial.services[service].rules[AGAIN] = again;
                trial.services[service].rules[PAUSE] = pause;
                boolean rests = firstOfRest(n, true) != NEVER;
                int tried = trialPrice();
                if (rests && (found == NEVER || tried < leastPrice)) {
                    found = 10 * again + pause;
                    leastPrice = tried;
                }
            }
        }
        if (found != NEVER) {
            latestPrice = leastPrice;
        }
        return found;
    }

    public int price() {
        return latestPrice;
    }

    /** The trial becomes as the house is, with some guests of a key told for the next tick and no others. */
    private void beginTrial(int key, int many) {
        trial.copyFrom(house);
        trial.tellings.size = 0;
        if (many > 0) {
            trial.tellings.add(trial.tick + 1, key, many);
        }
    }

    /**
     * The first of 24 still ticks side by side among the trial's next n, from 1 on, or NEVER.
     * A price is counted over all n ticks, so whoever wants one has the trial go on to the end behind its rest.
     */
    private int firstOfRest(int n, boolean toTheEnd) {
        int first = NEVER;
        int stillSoFar = 0;
        for (int t = 1; t <= n; t++) {
            trial.step();
            stillSoFar = trial.still ? stillSoFar + 1 : 0;
            if (first == NEVER && stillSoFar >= STILL_TICKS) {
                first = t - STILL_TICKS + 1;
            }
            boolean tooLate = first == NEVER && stillSoFar + n - t < STILL_TICKS;
            if (tooLate || (first != NEVER && !toTheEnd)) {
                return first;
            }
        }
        return first;
    }

    private int trialPrice() {
        return trial.people.lost - house.people.lost + trial.forNobody - house.forNobody;
    }

    private int callerOf(int place) {
        int caller = house.jobs.caller[place];
        if (caller == NOBODY) {
            return STATE;
        }
        return caller >= FIRST_GUEST ? NEVER : house.jobs.number[caller];
    }

    private boolean isService(int service) {
        return within(service, 0, house.serviceCount - 1);
    }

    private static boolean isKey(int key) {
        return within(key, 0, KEYS - 1);
    }

    private static boolean isTriable(int n) {
        return within(n, STILL_TICKS, MOST_TRIED_TICKS);
    }

    private static boolean isRule(int what, int v) {
        return within(what, 0, RULES - 1) && within(v, LEAST_OF_RULE[what], MOST_OF_RULE[what]);
    }

    private static boolean within(int v, int least, int most) {
        return v >= least && v <= most;
    }

    /** Places that are taken, in the order in which they were taken, and the free ones, as two chains. */
    private static final class Line {
        private final int[] before;
        private final int[] behind;
        private int first = NOBODY;
        private int last = NOBODY;
        private int free = 0;
        private int size = 0;

        Line(int most) {
            int length = Math.max(1, most);
            before = new int[length];
            behind = new int[length];
            for (int i = 0; i < length; i++) {
                behind[i] = i + 1 < length ? i + 1 : NOBODY;
            }
        }

        /** A free place becomes the last one of the line; NOBODY if there is none. */
        int take() {
            int place = free;
            if (place == NOBODY) {
                return NOBODY;
            }
            free = behind[place];
            before[place] = last;
            behind[place] = NOBODY;
            if (last == NOBODY) {
                first = place;
            } else {
                behind[last] = place;
            }
            last = place;
            size++;
            return place;
        }

        void giveBack(int place) {
            if (place < 0 || place >= before.length) {
                return;
            }
            int ahead = before[place];
            int next = behind[place];
            if (ahead == NOBODY) {
                first = next;
            } else {
                behind[ahead] = next;
            }
            if (next == NOBODY) {
                last = ahead;
            } else {
                before[next] = ahead;
            }
            behind[place] = free;
            free = place;
            size--;
        }

        /** The i-th place of the line, or NOBODY. */
        int placeAt(int i) {
            if (i < 0 || i >= size) {
                return NOBODY;
            }
            int place = first;
            for (int k = 0; k < i && place != NOBODY; k++) {
                place = behind[place];
            }
            return place;
        }

        void copyFrom(Line other) {
            int length = Math.min(before.length, other.before.length);
            System.arraycopy(other.before, 0, before, 0, length);
            System.arraycopy(other.behind, 0, behind, 0, length);
            first = other.first;
            last = other.last;
            free = other.free;
            size = other.size;
        }
    }

    /** The jobs that are there; their line is in the order of their numbers. */
    private static final class Jobs {
        private final Line line = new Line(MOST_JOBS);
        private final int[] number = new int[MOST_JOBS];
        private final int[] service = new int[MOST_JOBS];
        private final int[] key = new int[MOST_JOBS];
        private final int[] state = new int[MOST_JOBS];
        private final int[] caller = new int[MOST_JOBS];
        /** The job that NEXT has for this one, while it asks. */
        private final int[] child = new int[MOST_JOBS];
        private final int[] till = new int[MOST_JOBS];
        private final int[] again = new int[MOST_JOBS];
        private int came = 0;

        /** A new job that waits, with the next number; NOBODY if there are too many. */
        int add(int at, int forKey, int from) {
            int place = line.take();
            if (place == NOBODY) {
                return NOBODY;
            }
            number[place] = came;
            came++;
            service[place] = at;
            key[place] = forKey;
            state[place] = WAITS;
            caller[place] = from;
            child[place] = NOBODY;
            till[place] = NEVER;
            again[place] = 0;
            return place;
        }

        void remove(int place) {
            state[place] = GONE;
            line.giveBack(place);
        }

        void become(int place, int newState, int newTill) {
            state[place] = newState;
            till[place] = newTill;
        }

        boolean isDue(int place, int inState, int tick) {
            return state[place] == inState && till[place] == tick;
        }

        int howMany(int at, int inState) {
            int found = 0;
            int place = line.first;
            for (int i = 0; i < line.size && place != NOBODY; i++) {
                if (service[place] == at && state[place] == inState) {
                    found++;
                }
                place = line.behind[place];
            }
            return found;
        }

        void copyFrom(Jobs other) {
            line.copyFrom(other.line);
            System.arraycopy(other.number, 0, number, 0, MOST_JOBS);
            System.arraycopy(other.service, 0, service, 0, MOST_JOBS);
            System.arraycopy(other.key, 0, key, 0, MOST_JOBS);
            System.arraycopy(other.state, 0, state, 0, MOST_JOBS);
            System.arraycopy(other.caller, 0, caller, 0, MOST_JOBS);
            System.arraycopy(other.child, 0, child, 0, MOST_JOBS);
            System.arraycopy(other.till, 0, till, 0, MOST_JOBS);
            System.arraycopy(other.again, 0, again, 0, MOST_JOBS);
            came = other.came;
        }
    }

    /** The guests that are there, in the order in which they came, and what has become of all. */
    private static final class Guests {
        private final Line line = new Line(MOST_GUESTS);
        private final int[] key = new int[MOST_GUESTS];
        private final int[] job = new int[MOST_GUESTS];
        private final int[] deadline = new int[MOST_GUESTS];
        private final int[] again = new int[MOST_GUESTS];
        private int patience = 20;
        private int mostAgain = 0;
        private int came = 0;
        private int served = 0;
        private int lost = 0;
        private int timesAgain = 0;

        /** A new guest, or NOBODY if there are too many. */
        int add(int forKey) {
            int place = line.take();
            if (place == NOBODY) {
                return NOBODY;
            }
            key[place] = forKey;
            job[place] = NOBODY;
            again[place] = 0;
            return place;
        }

        void copyFrom(Guests other) {
            line.copyFrom(other.line);
            System.arraycopy(other.key, 0, key, 0, MOST_GUESTS);
            System.arraycopy(other.job, 0, job, 0, MOST_GUESTS);
            System.arraycopy(other.deadline, 0, deadline, 0, MOST_GUESTS);
            System.arraycopy(other.again, 0, again, 0, MOST_GUESTS);
            patience = other.patience;
            mostAgain = other.mostAgain;
            came = other.came;
            served = other.served;
            lost = other.lost;
            timesAgain = other.timesAgain;
        }
    }

    private static final class Service {
        private final int[] rules = new int[RULES];
        private final int[] tallies = new int[TALLIES];
        private final int[] keptTill = new int[KEYS];
        private final int[] queue = new int[MOST_ROOM];
        private int waiting = 0;
        private int handsInUse = 0;
        private int restTill = NEVER;
        private int failRow = 0;

        Service() {
            System.arraycopy(FIRST_OF_RULE, 0, rules, 0, RULES);
            Arrays.fill(keptTill, NEVER);
        }

        boolean hasAnswer(int key, int tick) {
            return tick <= keptTill[key];
        }

        boolean rests(int tick) {
            return tick <= restTill;
        }

        boolean hasFreeHand() {
            return handsInUse < rules[HANDS];
        }

        void addLast(int job) {
            if (waiting < MOST_ROOM) {
                queue[waiting] = job;
                waiting++;
            }
        }

        int takeFirst() {
            if (waiting <= 0) {
                return NOBODY;
            }
            int first = queue[0];
            waiting--;
            System.arraycopy(queue, 1, queue, 0, waiting);
            return first;
        }

        void copyFrom(Service other) {
            System.arraycopy(other.rules, 0, rules, 0, RULES);
            System.arraycopy(other.tallies, 0, tallies, 0, TALLIES);
            System.arraycopy(other.keptTill, 0, keptTill, 0, KEYS);
            System.arraycopy(other.queue, 0, queue, 0, MOST_ROOM);
            waiting = other.waiting;
            handsInUse = other.handsInUse;
            restTill = other.restTill;
            failRow = other.failRow;
        }
    }

    /** What is told of guests to come, in the order told. */
    private static final class Tellings {
        private final int[] ticks = new int[MOST_TELLINGS];
        private final int[] keys = new int[MOST_TELLINGS];
        private final int[] many = new int[MOST_TELLINGS];
        private int size = 0;

        void add(int tick, int key, int howMany) {
            if (size < MOST_TELLINGS) {
                ticks[size] = tick;
                keys[size] = key;
                many[size] = howMany;
                size++;
            }
        }

        /** How many guests the i-th telling has for a tick. */
        int manyFor(int tick, int i) {
            return i >= 0 && i < size && ticks[i] == tick ? many[i] : 0;
        }

        void forget(int tick) {
            int left = 0;
            for (int i = 0; i < size; i++) {
                if (ticks[i] != tick) {
                    ticks[left] = ticks[i];
                    keys[left] = keys[i];
                    many[left] = many[i];
                    left++;
                }
            }
            size = left;
        }
    }

    /** The usual crowd; as long as no period is told it is 0, and place 0, as all, is without guests. */
    private static final class Regulars {
        private final int[] keys = new int[MOST_PERIOD];
        private final int[] many = new int[MOST_PERIOD];
        private int period = 0;

        void begin(int newPeriod) {
            period = newPeriod;
            Arrays.fill(keys, 0);
            Arrays.fill(many, 0);
        }

        int placeOf(int tick) {
            return period > 0 ? Math.floorMod(tick, period) : 0;
        }

        void copyFrom(Regulars other) {
            System.arraycopy(other.keys, 0, keys, 0, MOST_PERIOD);
            System.arraycopy(other.many, 0, many, 0, MOST_PERIOD);
            period = other.period;
        }
    }

    /** All services with their jobs and guests, and how a tick goes by. */
    private static final class House {
        private final Service[] services = new Service[MOST_SERVICES];
        private int serviceCount = 0;
        private int tick = 0;
        private boolean still = true;
        private int forNobody = 0;
        private final Jobs jobs = new Jobs();
        private final Guests people = new Guests();
        private final Tellings tellings = new Tellings();
        private final Regulars regulars = new Regulars();
        private final int[] due = new int[MOST_JOBS];
        private int dueSize = 0;
        /** The caller that is to be answered next; settle() does it, so that answers go up the row in a loop. */
        private int toAnswer = NOBODY;
        private boolean answerIsGood = false;

        House() {
            for (int i = 0; i < MOST_SERVICES; i++) {
                services[i] = new Service();
            }
        }

        int addService(int hands, int room, int work) {
            if (serviceCount >= MOST_SERVICES) {
                return FULL;
            }
            int[] rules = services[serviceCount].rules;
            rules[HANDS] = hands;
            rules[ROOM] = room;
            rules[WORK] = work;
            serviceCount++;
            return serviceCount - 1;
        }

        /** A tick, in the document's order. */
        void step() {
            tick++;
            still = true;
            findDueJobs();
            endWork();
            endPauses();
            endAsking();
            endPatience();
            fillHands();
            for (int i = 0; i < tellings.size; i++) {
                guestsCome(tellings.keys[i], tellings.manyFor(tick, i));
            }
            tellings.forget(tick);
            int place = regulars.placeOf(tick);
            guestsCome(regulars.keys[place], regulars.many[place]);
        }

        /**
         * The jobs whose tick this is, by numbers. One search serves three steps of a tick: whatever a job begins
         * in a tick lasts beyond it, so no job becomes due in one of them, though some cease to be.
         */
        private void findDueJobs() {
            dueSize = 0;
            int place = jobs.line.first;
            for (int i = 0; i < MOST_JOBS && place != NOBODY; i++) {
                if (jobs.till[place] == tick) {
                    due[dueSize] = place;
                    dueSize++;
                }
                place = jobs.line.behind[place];
            }
        }

        private void endWork() {
            for (int i = 0; i < dueSize; i++) {
                int job = due[i];
                if (jobs.isDue(job, WORKS, tick)) {
                    if (jobs.service[job] + 1 < serviceCount) {
                        toAsk(job);
                    } else {
                        end(job, true);
                    }
                    settle();
                }
            }
        }

        private void endPauses() {
            for (int i = 0; i < dueSize; i++) {
                int job = due[i];
                if (jobs.isDue(job, PAUSES, tick)) {
                    jobs.again[job]++;
                    toAsk(job);
                    settle();
                }
            }
        }

        private void endAsking() {
            for (int i = 0; i < dueSize; i++) {
                int job = due[i];
                if (jobs.isDue(job, ASKS, tick)) {
                    giveUp(jobs.child[job]);
                    if (!pausesAfterFail(job)) {
                        end(job, false);
                    }
                    settle();
                }
            }
        }

        private void endPatience() {
            int guest = people.line.first;
            for (int i = 0; i < MOST_GUESTS && guest != NOBODY; i++) {
                // Looked up first: the guest may go by its own turn, but never by that of another one.
                int next = people.line.behind[guest];
                if (people.deadline[guest] == tick) {
                    giveUp(people.job[guest]);
                    people.job[guest] = NOBODY;
                    still = false;
                    if (people.again[guest] < people.mostAgain) {
                        people.again[guest]++;
                        people.timesAgain++;
                        guestAsks(guest);
                        settle();
                    } else {
                        people.lost++;
                        people.line.giveBack(guest);
                    }
                }
                guest = next;
            }
        }

        private void fillHands() {
            for (int s = 0; s < serviceCount; s++) {
                for (int i = 0; i < MOST_ROOM && services[s].waiting > 0 && services[s].hasFreeHand(); i++) {
                    begin(services[s].takeFirst());
                }
            }
        }

        private void guestsCome(int key, int many) {
            for (int i = 0; i < many; i++) {
                people.came++;
                int guest = people.add(key);
                if (guest == NOBODY) {
                    people.lost++;
                    still = false;
                } else {
                    guestAsks(guest);
                    settle();
                }
            }
        }

        private void guestAsks(int guest) {
            people.deadline[guest] = tick + people.patience;
            comes(0, people.key[guest], FIRST_GUEST + guest);
        }

        private void toAsk(int job) {
            Service s = services[jobs.service[job]];
            if (s.rests(tick)) {
                end(job, false);
            } else {
                jobs.become(job, ASKS, tick + s.rules[TIMEOUT]);
                comes(jobs.service[job] + 1, jobs.key[job], job);
            }
        }

        /** A job comes to a service; an answer at once is left for settle(). */
        private void comes(int at, int key, int caller) {
            if (at < 0 || at >= serviceCount) {
                return;
            }
            Service s = services[at];
            if (s.hasAnswer(key, tick)) {
                s.tallies[HITS]++;
                answer(caller, true);
                return;
            }
            boolean canWork = s.hasFreeHand() && s.waiting == 0;
            boolean canWait = s.waiting < s.rules[ROOM];
            boolean canPush = s.rules[OLDEST] != 0 && s.rules[ROOM] > 0;
            int job = canWork || canWait || canPush ? jobs.add(at, key, caller) : NOBODY;
            if (job == NOBODY) {
                refuse(s, caller);
                return;
            }
            setJobOf(caller, job);
            if (canWork) {
                begin(job);
            } else if (canWait) {
                s.addLast(job);
            } else {
                int oldest = s.takeFirst();
                s.addLast(job);
                if (oldest != NOBODY) {
                    refuse(s, jobs.caller[oldest]);
                    jobs.remove(oldest);
                }
            }
        }

        private void setJobOf(int caller, int job) {
            if (caller >= FIRST_GUEST) {
                people.job[caller - FIRST_GUEST] = job;
            } else {
                jobs.child[caller] = job;
            }
        }

        /** What is refused isn't over, so it never counts as for nobody. */
        private void refuse(Service s, int caller) {
            s.tallies[REFUSED]++;
            still = false;
            answer(caller, false);
        }

        private void begin(int job) {
            Service s = services[jobs.service[job]];
            s.handsInUse++;
            s.tallies[BEGUN]++;
            jobs.become(job, WORKS, tick + s.rules[WORK]);
        }

        private void giveUp(int job) {
            if (job != NOBODY) {
                jobs.caller[job] = NOBODY;
            }
        }

        /** A job is over; its caller's answer is left for settle(). */
        private void end(int job, boolean good) {
            Service s = services[jobs.service[job]];
            s.handsInUse--;
            s.tallies[good ? GOOD : BAD]++;
            if (good && s.rules[KEEP] > 0) {
                s.keptTill[jobs.key[job]] = tick + s.rules[KEEP];
            }
            int caller = jobs.caller[job];
            if (caller == NOBODY) {
                s.tallies[FOR_NOBODY]++;
                forNobody++;
            }
            jobs.remove(job);
            answer(caller, good);
        }

        private void answer(int caller, boolean good) {
            toAnswer = caller;
            answerIsGood = good;
        }

        /** Answers whoever is to be answered, and the caller of each that is over by its answer. */
        private void settle() {
            for (int i = 0; i <= MOST_SERVICES && toAnswer != NOBODY; i++) {
                int caller = toAnswer;
                toAnswer = NOBODY;
                if (caller >= FIRST_GUEST) {
                    answerGuest(caller - FIRST_GUEST);
                } else if (answerIsGood) {
                    services[jobs.service[caller]].failRow = 0;
                    end(caller, true);
                } else if (!pausesAfterFail(caller)) {
                    end(caller, false);
                }
            }
        }

        private void answerGuest(int guest) {
            people.job[guest] = NOBODY;
            if (answerIsGood) {
                people.served++;
                people.line.giveBack(guest);
            } else {
                people.deadline[guest] = tick + 1;
            }
        }

        /** A job fails: true if it pauses then, to ask again; false if it is to be ended. */
        private boolean pausesAfterFail(int job) {
            Service s = services[jobs.service[job]];
            still = false;
            s.tallies[FAILS]++;
            s.failRow++;
            if (s.rules[SICK] > 0 && s.failRow >= s.rules[SICK]) {
                s.restTill = tick + s.rules[REST];
                s.failRow = 0;
            }
            jobs.child[job] = NOBODY;
            if (jobs.again[job] >= s.rules[AGAIN]) {
                return false;
            }
            jobs.become(job, PAUSES, tick + 1 + (s.rules[PAUSE] << jobs.again[job]));
            return true;
        }

        /**
         * Becomes as another house is between two ticks, when nothing is due and nobody is to be answered.
         * What is told there stays there: it is left aside in all that is tried.
         */
        void copyFrom(House other) {
            for (int i = 0; i < MOST_SERVICES; i++) {
                services[i].copyFrom(other.services[i]);
            }
            serviceCount = other.serviceCount;
            tick = other.tick;
            still = other.still;
            forNobody = other.forNobody;
            jobs.copyFrom(other.jobs);
            people.copyFrom(other.people);
            regulars.copyFrom(other.regulars);
        }
    }
}
