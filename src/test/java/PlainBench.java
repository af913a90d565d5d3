import java.util.ArrayList;
import java.util.List;

/**
 * The document read a second time, as plainly as can be: objects, lists and calls that call themselves, and a house
 * that is tried is made anew by all calls that made the first one. Slow; only there to be compared with.
 */
final class PlainBench {
    static final int NONE = -1, FULL = -2, STATE = -3, NEVER = -4;

    enum State { WAITS, WORKS, ASKS, PAUSES, GONE }

    static final class Service {
        int number, hands, room, work;
        int timeout = 10, again = 0, pause = 1, keep = 0, sick = 0, rest = 10, oldest = 0;
        Service next;
        Integer restsUpTo;
        int rowOfFails;
        int hits, cameToWork, good, bad, refused, forNobody, fails;
        final Integer[] kept = new Integer[8];
        final List<Job> row = new ArrayList<>();
    }

    static final class Job {
        int number, key, till, again;
        Service at;
        State state;
        Object caller;
    }

    static final class Guest {
        int key, deadline, again;
        Job job;
        boolean gone;
    }

    final List<Service> services = new ArrayList<>();
    final List<Job> jobs = new ArrayList<>();
    final List<Guest> guests = new ArrayList<>();
    final List<int[]> tellings = new ArrayList<>();
    final List<int[]> history = new ArrayList<>();
    int tick, patience = 20, guestsAgain = 0;
    int period, placeKey[] = new int[12], placeMany[] = new int[12];
    int came, served, lost, askedAgain, nobody, jobsCame, price;
    boolean still = true;
    /** Whether the limits of 120 jobs and 100 guests were met, for the test to know. */
    boolean metJobs, metGuests, metPush;

    int call(int[] c) {
        switch (c[0]) {
            case 0: return service(c[1], c[2], c[3]);
            case 1: return rule(c[1], c[2], c[3]);
            case 2: return guests(c[1], c[2]);
            case 3: return crowd(c[1], c[2], c[3]);
            case 4: return usual(c[1]);
            case 5: return place(c[1], c[2], c[3]);
            default: return ticks(c[1]);
        }
    }

    int service(int hands, int room, int work) {
        if (hands < 1 || hands > 9 || room < 0 || room > 20 || work < 1 || work > 9) return NONE;
        if (services.size() == 6) return FULL;
        if (tick != 0) return STATE;
        history.add(new int[] {0, hands, room, work});
        Service s = new Service();
        s.number = services.size();
        s.hands = hands;
        s.room = room;
        s.work = work;
        if (!services.isEmpty()) services.get(services.size() - 1).next = s;
        services.add(s);
        return s.number;
    }

    Service find(int service) {
        return service >= 0 && service < services.size() ? services.get(service) : null;
    }

    int rule(int service, int what, int v) {
        int was = ruleOf(service, what);
        if (was == NONE || what == 9) return NONE;
        Service s = find(service);
        switch (what) {
            case 0: if (v < 1 || v > 40) return NONE; s.timeout = v; break;
            case 1: if (v < 0 || v > 4) return NONE; s.again = v; break;
            case 2: if (v < 0 || v > 9) return NONE; s.pause = v; break;
            case 3: if (v < 0 || v > 60) return NONE; s.keep = v; break;
            case 4: if (v < 0 || v > 9) return NONE; s.sick = v; break;
            case 5: if (v < 1 || v > 60) return NONE; s.rest = v; break;
            case 6: if (v < 0 || v > 1) return NONE; s.oldest = v; break;
            case 7: if (v < 1 || v > 9) return NONE; s.hands = v; break;
            default: if (v < 1 || v > 9) return NONE; s.work = v; break;
        }
        history.add(new int[] {1, service, what, v});
        return was;
    }

    int guests(int what, int v) {
        int was = what == 0 ? patience : guestsAgain;
        if (what == 0 && v >= 1 && v <= 60) patience = v;
        else if (what == 1 && v >= 0 && v <= 3) guestsAgain = v;
        else return NONE;
        history.add(new int[] {2, what, v});
        return was;
    }

    int crowd(int at, int key, int many) {
        if (at <= tick || at > 100000 || key < 0 || key > 7 || many < 1 || many > 30) return NONE;
        if (tellings.size() == 40) return FULL;
        history.add(new int[] {3, at, key, many});
        tellings.add(new int[] {at, key, many});
        return tellings.size();
    }

    int usual(int newPeriod) {
        if (newPeriod < 1 || newPeriod > 12) return NONE;
        history.add(new int[] {4, newPeriod});
        period = newPeriod;
        placeMany = new int[12];
        return 1;
    }

    int place(int place, int key, int many) {
        if (place < 0 || place >= period || key < 0 || key > 7 || many < 0 || many > 5) return NONE;
        history.add(new int[] {5, place, key, many});
        placeKey[place] = key;
        placeMany[place] = many;
        return 1;
    }

    int ticks(int n) {
        if (n < 1 || n > 500 || tick + n > 100000) return NONE;
        if (services.isEmpty()) return STATE;
        history.add(new int[] {6, n});
        for (int i = 0; i < n; i++) aTick();
        return tick;
    }

    // ---- a tick, in its order

    void aTick() {
        tick++;
        still = true;
        for (Job j : whoAre(State.WORKS)) if (isSo(j, State.WORKS)) {
            if (j.at.next != null) toAsk(j); else over(j, true);
        }
        for (Job j : whoAre(State.PAUSES)) if (isSo(j, State.PAUSES)) {
            j.again++;
            toAsk(j);
        }
        for (Job j : whoAre(State.ASKS)) if (isSo(j, State.ASKS)) {
            for (Job other : jobs) if (other.caller == j) other.caller = null;
            fails(j);
        }
        List<Guest> then = new ArrayList<>();
        for (Guest g : guests) if (g.deadline == tick) then.add(g);
        for (Guest g : then) if (!g.gone && g.deadline == tick) deadline(g);
        for (Service s : services) {
            while (freeHand(s) && !s.row.isEmpty()) work(s.row.remove(0));
        }
        List<int[]> now = new ArrayList<>();
        for (int[] t : tellings) if (t[0] == tick) now.add(t);
        tellings.removeAll(now);
        for (int[] t : now) for (int i = 0; i < t[2]; i++) newGuest(t[1]);
        if (period > 0) for (int i = 0; i < placeMany[tick % period]; i++) newGuest(placeKey[tick % period]);
    }

    List<Job> whoAre(State state) {
        List<Job> found = new ArrayList<>();
        for (Job j : jobs) if (isSo(j, state)) found.add(j);
        return found;
    }

    boolean isSo(Job j, State state) {
        return j.state == state && j.till == tick;
    }

    void deadline(Guest g) {
        still = false;
        if (g.job != null) g.job.caller = null;
        g.job = null;
        if (g.again < guestsAgain) {
            g.again++;
            askedAgain++;
            guestAsks(g);
        } else {
            lost++;
            g.gone = true;
            guests.remove(g);
        }
    }

    void newGuest(int key) {
        came++;
        if (guests.size() == 100) {
            lost++;
            still = false;
            metGuests = true;
            return;
        }
        Guest g = new Guest();
        g.key = key;
        guests.add(g);
        guestAsks(g);
    }

    void guestAsks(Guest g) {
        g.deadline = tick + patience;
        comes(services.get(0), g.key, g);
    }

    boolean freeHand(Service s) {
        int used = 0;
        for (Job j : jobs) if (j.at == s && j.state != State.WAITS) used++;
        return used < s.hands;
    }

    void work(Job j) {
        j.state = State.WORKS;
        j.till = tick + j.at.work;
        j.at.cameToWork++;
    }

    void comes(Service s, int key, Object caller) {
        if (s.kept[key] != null && tick <= s.kept[key]) {
            s.hits++;
            answered(caller, true);
        } else if (jobs.size() == 120) {
            metJobs = true;
            refusedAtOnce(s, caller);
        } else if (freeHand(s) && s.row.isEmpty()) {
            work(newJob(s, key, caller));
        } else if (s.row.size() < s.room) {
            s.row.add(newJob(s, key, caller));
        } else if (s.oldest == 1 && s.room != 0) {
            metPush = true;
            Job first = s.row.remove(0);
            s.row.add(newJob(s, key, caller));
            s.refused++;
            still = false;
            jobs.remove(first);
            first.state = State.GONE;
            if (first.caller != null) answered(first.caller, false);
        } else {
            refusedAtOnce(s, caller);
        }
    }

    void refusedAtOnce(Service s, Object caller) {
        s.refused++;
        still = false;
        answered(caller, false);
    }

    Job newJob(Service s, int key, Object caller) {
        Job j = new Job();
        j.number = jobsCame++;
        j.at = s;
        j.key = key;
        j.caller = caller;
        j.state = State.WAITS;
        if (caller instanceof Guest) ((Guest) caller).job = j;
        jobs.add(j);
        return j;
    }

    void toAsk(Job j) {
        if (j.at.restsUpTo != null && tick <= j.at.restsUpTo) {
            over(j, false);
            return;
        }
        j.state = State.ASKS;
        j.till = tick + j.at.timeout;
        comes(j.at.next, j.key, j);
    }

    void over(Job j, boolean good) {
        jobs.remove(j);
        j.state = State.GONE;
        if (good) j.at.good++; else j.at.bad++;
        if (good && j.at.keep != 0) j.at.kept[j.key] = tick + j.at.keep;
        if (j.caller == null) {
            nobody++;
            j.at.forNobody++;
        } else {
            answered(j.caller, good);
        }
    }

    void answered(Object caller, boolean good) {
        if (caller instanceof Guest) {
            Guest g = (Guest) caller;
            g.job = null;
            if (good) {
                served++;
                g.gone = true;
                guests.remove(g);
            } else {
                g.deadline = tick + 1;
            }
        } else if (good) {
            ((Job) caller).at.rowOfFails = 0;
            over((Job) caller, true);
        } else {
            fails((Job) caller);
        }
    }

    void fails(Job j) {
        Service s = j.at;
        still = false;
        s.fails++;
        s.rowOfFails++;
        if (s.sick != 0 && s.rowOfFails >= s.sick) {
            s.restsUpTo = tick + s.rest;
            s.rowOfFails = 0;
        }
        if (j.again < s.again) {
            int power = 1;
            for (int i = 0; i < j.again; i++) power *= 2;
            j.state = State.PAUSES;
            j.till = tick + 1 + s.pause * power;
        } else {
            over(j, false);
        }
    }

    // ---- what there is

    int about(int service, int what) {
        Service s = find(service);
        if (s == null) return NONE;
        int[] states = new int[5];
        for (Job j : jobs) if (j.at == s) states[j.state.ordinal()]++;
        int resting = s.restsUpTo != null && tick <= s.restsUpTo ? s.restsUpTo : -1;
        int[] all = {states[0], states[1], states[2], states[3], resting, s.rowOfFails, s.hits, s.cameToWork, s.good,
            s.bad, s.refused, s.forNobody, s.fails};
        return what < 0 || what >= all.length ? NONE : all[what];
    }

    int ruleOf(int service, int what) {
        Service s = find(service);
        if (s == null) return NONE;
        int[] all = {s.timeout, s.again, s.pause, s.keep, s.sick, s.rest, s.oldest, s.hands, s.work, s.room};
        return what < 0 || what >= all.length ? NONE : all[what];
    }

    int kept(int service, int key) {
        Service s = find(service);
        if (s == null || key < 0 || key > 7) return NONE;
        return s.kept[key] == null || s.kept[key] < tick ? NEVER : s.kept[key];
    }

    int job(int i, int what) {
        if (i < 0 || i >= jobs.size() || what < 0 || what > 6) return NONE;
        Job j = jobs.get(i);
        int caller = j.caller == null ? -3 : j.caller instanceof Guest ? -4 : ((Job) j.caller).number;
        int till = j.state == State.WAITS ? -4 : j.till;
        return new int[] {j.number, j.at.number, j.key, j.state.ordinal(), caller, till, j.again}[what];
    }

    int row(int service, int i) {
        Service s = find(service);
        return s == null || i < 0 || i >= s.row.size() ? NONE : s.row.get(i).number;
    }

    int guest(int i, int what) {
        if (i < 0 || i >= guests.size() || what < 0 || what > 3) return NONE;
        Guest g = guests.get(i);
        return new int[] {g.key, g.job == null ? -3 : g.job.number, g.deadline, g.again}[what];
    }

    int count(int what) {
        int[] all = {services.size(), tick, jobs.size(), guests.size(), came, served, lost, askedAgain, nobody,
            tellings.size(), jobsCame, still ? 1 : 0};
        return what < 0 || what >= all.length ? NONE : all[what];
    }

    // ---- what would be

    PlainBench anew(int key, int many) {
        PlainBench b = new PlainBench();
        for (int[] c : history) b.call(c);
        b.tellings.clear();
        if (many > 0) b.tellings.add(new int[] {tick + 1, key, many});
        return b;
    }

    /** All n ticks go by; the first tick of 24 still ones is looked for behind that. */
    int toRest(int n) {
        boolean[] stills = new boolean[n + 1];
        for (int t = 1; t <= n; t++) {
            aTick();
            stills[t] = still;
        }
        for (int first = 1; first + 23 <= n; first++) {
            boolean all = true;
            for (int t = first; t < first + 24; t++) all &= stills[t];
            if (all) return first;
        }
        return NEVER;
    }

    int rest(int n) {
        if (n < 24 || n > 400) return NONE;
        return services.isEmpty() ? STATE : anew(0, 0).toRest(n);
    }

    int bears(int key, int n) {
        if (key < 0 || key > 7 || n < 24 || n > 400) return NONE;
        if (services.isEmpty()) return STATE;
        for (int b = 0; b <= 30; b++) {
            if (anew(key, b).toRest(n) == NEVER) return b == 0 ? NEVER : b - 1;
        }
        return 30;
    }

    int best(int service, int key, int many, int n) {
        if (find(service) == null || key < 0 || key > 7 || many < 0 || many > 30 || n < 24 || n > 400) return NONE;
        int found = NEVER;
        int least = Integer.MAX_VALUE;
        for (int again = 0; again <= 3; again++) for (int pause = 0; pause <= 3; pause++) {
            PlainBench b = anew(key, many);
            b.find(service).again = again;
            b.find(service).pause = pause;
            int first = b.toRest(n);
            int itsPrice = b.lost - lost + b.nobody - nobody;
            if (first != NEVER && itsPrice < least) {
                least = itsPrice;
                found = 10 * again + pause;
            }
        }
        if (found != NEVER) price = least;
        return found;
    }
}
