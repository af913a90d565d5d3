/** Numbers too small and too large, what is full, what there isn't, and that a refused call changes nothing. */
public final class EdgesOfNumbersTest {
    private static final int NONE = Due.NONE, FULL = Due.FULL, STATE = Due.STATE, NEVER = Due.NEVER;
    private static final int LOWEST = Integer.MIN_VALUE, HIGHEST = Integer.MAX_VALUE;
    private static final Due due = new Due();

    public static void main(String[] args) {
        aNewObject();
        hands(); room(); work(); sixServices(); serviceBehindTicks(); answersOfServiceInOrder();
        rules(); noSuchRule(); fewerHandsThanInUse(); workFromThenOn();
        patience(); guestsAgain(); noSuchRuleOfGuests();
        tickTold(); keyTold(); manyTold(); fortyTellings(); tellingsGoWithTheirTick();
        period(); usualWithoutGuests();
        places(); placeWithoutPeriod(); keyOfPlace(); manyOfPlace();
        ticksOfACall(); beyondTheLastTick(); ticksWithoutService();
        about(); ruleOf(); kept(); job(); row(); guest(); count();
        trialNumbers(); bestNumbers(); answersOfTrialsInOrder();
        lowestAndHighest();
        refusedChangesNothing();
        due.end();
    }

    private static StormBench with(int hands, int room, int work) {
        StormBench x = new StormBench();
        x.service(hands, room, work);
        return x;
    }

    /** A house in the middle of a storm: all states of jobs, a rest, tellings, a usual crowd, kept answers, a price. */
    private static StormBench busy() {
        StormBench x = new StormBench();
        x.service(4, 2, 1);
        x.service(1, 1, 3);
        x.rule(0, 0, 4);
        x.rule(0, 1, 2);
        x.rule(0, 2, 3);
        x.rule(0, 4, 3);
        x.rule(1, 3, 9);
        x.guests(0, 9);
        x.guests(1, 1);
        x.usual(5);
        x.place(0, 6, 1);
        x.best(0, 1, 3, 200);
        x.crowd(1, 1, 1);
        x.crowd(2, 2, 4);
        x.crowd(4, 3, 3);
        x.crowd(90, 4, 2);
        x.ticks(5);
        return x;
    }

    // ---- promise 1

    private static void aNewObject() {
        due.by(1, "TICK 0, no services, no guests.");
        StormBench x = new StormBench();
        for (int what = 0; what <= 10; what++) due.is("count(" + what + ")", x.count(what), 0);
        due.is("still ahead of any", x.count(11), 1);
        due.is("price()", x.price(), 0);
        for (int what = 0; what <= 12; what++) due.is("about(0, " + what + ")", x.about(0, what), NONE);
        for (int what = 0; what <= 9; what++) due.is("ruleOf(0, " + what + ")", x.ruleOf(0, what), NONE);
        due.is("kept(0, 0)", x.kept(0, 0), NONE);
        due.is("job(0, 0)", x.job(0, 0), NONE);
        due.is("row(0, 0)", x.row(0, 0), NONE);
        due.is("guest(0, 0)", x.guest(0, 0), NONE);
        due.is("rule(0, 0, 1)", x.rule(0, 0, 1), NONE);
    }

    // ---- promise 2

    private static void hands() {
        due.by(2, "HANDS (1 .. 9)");
        StormBench x = new StormBench();
        int[] not = {LOWEST, -1, 0, 10, HIGHEST};
        for (int v : not) due.is("service(" + v + ", 0, 1)", x.service(v, 0, 1), NONE);
        due.is("none was made", x.count(0), 0);
        due.is("least", x.service(1, 0, 1), 0);
        due.is("most", x.service(9, 0, 1), 1);
        due.is("least", x.ruleOf(0, 7), 1);
        due.is("most", x.ruleOf(1, 7), 9);
    }

    private static void room() {
        due.by(2, "ROOM (0 .. 20)");
        StormBench x = new StormBench();
        int[] not = {LOWEST, -1, 21, HIGHEST};
        for (int v : not) due.is("service(1, " + v + ", 1)", x.service(1, v, 1), NONE);
        due.is("none was made", x.count(0), 0);
        due.is("least", x.service(1, 0, 1), 0);
        due.is("most", x.service(1, 20, 1), 1);
        due.is("least", x.ruleOf(0, 9), 0);
        due.is("most", x.ruleOf(1, 9), 20);
    }

    private static void work() {
        due.by(2, "WORK (1 .. 9 ticks)");
        StormBench x = new StormBench();
        int[] not = {LOWEST, -1, 0, 10, HIGHEST};
        for (int v : not) due.is("service(1, 0, " + v + ")", x.service(1, 0, v), NONE);
        due.is("none was made", x.count(0), 0);
        due.is("least", x.service(1, 0, 1), 0);
        due.is("most", x.service(1, 0, 9), 1);
        due.is("least", x.ruleOf(0, 8), 1);
        due.is("most", x.ruleOf(1, 8), 9);
    }

    private static void sixServices() {
        due.by(2, "SERVICES 0 .. 5, as they were made");
        StormBench x = new StormBench();
        for (int i = 0; i < 6; i++) due.is("service", x.service(1, i, 1), i);
        due.is("a seventh", x.service(1, 6, 1), FULL);
        due.is("six", x.count(0), 6);
        for (int i = 0; i < 6; i++) due.is("as they were made", x.ruleOf(i, 9), i);
        due.is("there is no seventh", x.ruleOf(6, 9), NONE);
    }

    private static void serviceBehindTicks() {
        due.by(2, "STATE: TICK is not 0");
        StormBench x = new StormBench();
        due.is("ticks are refused", x.ticks(1), STATE);
        due.is("so TICK is 0", x.service(1, 1, 1), 0);
        due.is("ticks are refused", x.ticks(501), NONE);
        due.is("so TICK is 0", x.service(1, 1, 1), 1);
        due.is("tried ticks are no ticks", x.rest(24), 1);
        due.is("so TICK is 0", x.service(1, 1, 1), 2);
        x.ticks(1);
        due.is("TICK is 1", x.service(1, 1, 1), STATE);
        due.is("three", x.count(0), 3);
    }

    private static void answersOfServiceInOrder() {
        due.by(2, "Answers, the first that a call names: NONE (-1)");
        StormBench x = new StormBench();
        for (int i = 0; i < 6; i++) x.service(1, 1, 1);
        due.is("NONE ahead of FULL", x.service(0, 1, 1), NONE);
        x.ticks(1);
        due.is("FULL ahead of STATE", x.service(1, 1, 1), FULL);
        due.is("NONE ahead of both", x.service(1, 1, 10), NONE);
        StormBench y = with(1, 1, 1);
        y.ticks(1);
        due.is("NONE ahead of STATE", y.service(1, 21, 1), NONE);
    }

    // ---- promise 3

    private static void rules() {
        String[] words = {"TIMEOUT (1 .. 40; 10 at first)", "AGAIN (0 .. 4; 0 at first)", "PAUSE (0 .. 9; 1 at first)",
            "KEEP (0 .. 60 ticks; 0 at first: it keeps nothing)", "SICK (0 .. 9; 0 at first: never)",
            "REST (1 .. 60; 10 at first)", "OLDEST (1 or 0; 0 at first)", "HANDS (1 .. 9)", "WORK (1 .. 9 ticks)"};
        int[] least = {1, 0, 0, 0, 0, 1, 0, 1, 1};
        int[] most = {40, 4, 9, 60, 9, 60, 1, 9, 9};
        int[] first = {10, 0, 1, 0, 0, 10, 0, 4, 6};
        for (int what = 0; what < 9; what++) {
            due.by(3, words[what]);
            StormBench x = with(4, 3, 6);
            due.is("at first", x.ruleOf(0, what), first[what]);
            int[] not = {LOWEST, least[what] - 1, most[what] + 1, HIGHEST};
            for (int v : not) due.is("rule(0, " + what + ", " + v + ")", x.rule(0, what, v), NONE);
            due.is("what is refused changes nothing", x.ruleOf(0, what), first[what]);
            due.is("least, answers what it was", x.rule(0, what, least[what]), first[what]);
            due.is("most, answers what it was", x.rule(0, what, most[what]), least[what]);
            due.is("as it is", x.ruleOf(0, what), most[what]);
        }
    }

    private static void noSuchRule() {
        due.by(3, "NONE (-1): there is no such thing, or a number is not as said");
        StormBench x = with(4, 3, 6);
        int[] not = {LOWEST, -1, 9, 10, HIGHEST};
        for (int what : not) due.is("rule(0, " + what + ", 1)", x.rule(0, what, 1), NONE);
        due.is("ROOM stays", x.ruleOf(0, 9), 3);
        int[] services = {LOWEST, -1, 1, 5, 6, HIGHEST};
        for (int s : services) due.is("rule(" + s + ", 0, 1)", x.rule(s, 0, 1), NONE);
    }

    private static void fewerHandsThanInUse() {
        due.by(3, "7 HANDS (with fewer than are in use none is free)");
        StormBench x = with(2, 3, 3);
        x.crowd(1, 0, 2);
        x.crowd(2, 0, 2);
        x.ticks(1);
        x.rule(0, 7, 1);
        x.ticks(1);
        due.is("two go on", x.about(0, 1), 2);
        due.is("two wait", x.about(0, 0), 2);
        x.ticks(2);
        due.is("one hand from then on", x.about(0, 1), 1);
        due.is("one waits on", x.about(0, 0), 1);
        x.rule(0, 7, 9);
        due.is("a rule itself sets nobody to work", x.about(0, 0), 1);
        x.ticks(1);
        due.is("the next tick does", x.about(0, 1), 2);
    }

    private static void workFromThenOn() {
        due.by(3, "8 WORK (of those that begin from then on)");
        StormBench x = with(2, 0, 9);
        x.crowd(1, 0, 1);
        x.crowd(2, 0, 1);
        x.ticks(1);
        x.rule(0, 8, 1);
        due.is("one that began", x.job(0, 5), 10);
        x.ticks(1);
        due.is("goes on", x.job(0, 5), 10);
        due.is("one that begins", x.job(1, 5), 3);
    }

    // ---- promise 4

    private static void patience() {
        due.by(4, "PATIENCE (1 .. 60; 20 at first)");
        StormBench x = with(1, 1, 9);
        int[] not = {LOWEST, -1, 0, 61, HIGHEST};
        for (int v : not) due.is("guests(0, " + v + ")", x.guests(0, v), NONE);
        due.is("least", x.guests(0, 1), 20);
        due.is("most", x.guests(0, 60), 1);
        x.crowd(1, 0, 1);
        x.ticks(1);
        due.is("DEADLINE of the most", x.guest(0, 2), 61);
    }

    private static void guestsAgain() {
        due.by(4, "GUESTS' AGAIN: 0 .. 3, 0 at first.");
        StormBench x = new StormBench();
        int[] not = {LOWEST, -1, 4, HIGHEST};
        for (int v : not) due.is("guests(1, " + v + ")", x.guests(1, v), NONE);
        due.is("most", x.guests(1, 3), 0);
        due.is("least", x.guests(1, 0), 3);
    }

    private static void noSuchRuleOfGuests() {
        due.by(4, "GUESTS' PATIENCE (what 0), AGAIN (1): what it was. NONE.");
        StormBench x = new StormBench();
        int[] not = {LOWEST, -1, 2, HIGHEST};
        for (int what : not) due.is("guests(" + what + ", 1)", x.guests(what, 1), NONE);
        due.is("PATIENCE", x.guests(0, 20), 20);
        due.is("AGAIN", x.guests(1, 0), 0);
    }

    // ---- promise 5

    private static void tickTold() {
        due.by(5, "GUESTS are TOLD for a TICK (now's next one, or later; at most 100000)");
        StormBench x = with(1, 1, 1);
        int[] not = {LOWEST, -1, 0, 100001, HIGHEST};
        for (int tick : not) due.is("crowd(" + tick + ", 0, 1)", x.crowd(tick, 0, 1), NONE);
        due.is("now's next one", x.crowd(1, 0, 1), 1);
        due.is("the last one", x.crowd(100000, 0, 1), 2);
        x.ticks(3);
        due.is("one gone by", x.crowd(2, 0, 1), NONE);
        due.is("now", x.crowd(3, 0, 1), NONE);
        due.is("now's next one", x.crowd(4, 0, 1), 2);
    }

    private static void keyTold() {
        due.by(5, "a KEY (0 .. 7)");
        StormBench x = with(9, 1, 9);
        int[] not = {LOWEST, -1, 8, HIGHEST};
        for (int key : not) due.is("crowd(1, " + key + ", 1)", x.crowd(1, key, 1), NONE);
        due.is("least", x.crowd(1, 0, 1), 1);
        due.is("most", x.crowd(1, 7, 1), 2);
        x.ticks(1);
        due.is("least", x.guest(0, 0), 0);
        due.is("most", x.guest(1, 0), 7);
        due.is("no more", x.count(4), 2);
    }

    private static void manyTold() {
        due.by(5, "TOLD: n GUESTS (1 .. 30) of a KEY at a TICK to come");
        StormBench x = with(9, 20, 9);
        int[] not = {LOWEST, -1, 0, 31, HIGHEST};
        for (int many : not) due.is("crowd(1, 0, " + many + ")", x.crowd(1, 0, many), NONE);
        due.is("none is kept", x.count(9), 0);
        due.is("least", x.crowd(1, 0, 1), 1);
        due.is("most", x.crowd(2, 0, 30), 2);
        x.ticks(1);
        due.is("least", x.count(4), 1);
        x.ticks(1);
        due.is("most", x.count(4), 31);
    }

    private static void fortyTellings() {
        due.by(5, "at most 40 such tellings are kept at once");
        StormBench x = new StormBench();
        for (int i = 1; i <= 40; i++) due.is("told", x.crowd(i, i % 8, 1 + i % 30), i);
        due.is("one more", x.crowd(41, 0, 1), FULL);
        due.is("NONE ahead of FULL", x.crowd(0, 0, 1), NONE);
        due.is("NONE ahead of FULL", x.crowd(41, 8, 1), NONE);
        due.is("NONE ahead of FULL", x.crowd(41, 0, 31), NONE);
        due.is("kept", x.count(9), 40);
    }

    private static void tellingsGoWithTheirTick() {
        due.by(5, "how many tellings are kept");
        StormBench x = with(9, 20, 1);
        for (int i = 1; i <= 40; i++) x.crowd(i <= 38 ? 2 : 1, 0, 1);
        x.ticks(1);
        due.is("two went", x.count(9), 38);
        due.is("a 39th", x.crowd(100000, 0, 1), 39);
        due.is("a 40th", x.crowd(2, 0, 1), 40);
        due.is("a 41st", x.crowd(2, 0, 1), FULL);
        x.ticks(1);
        due.is("one is left", x.count(9), 1);
        due.is("all came", x.count(4), 41);
        due.is("a second", x.crowd(3, 0, 1), 2);
    }

    // ---- promises 6 and 7

    private static void period() {
        due.by(6, "a PERIOD (1 .. 12)");
        StormBench x = with(1, 1, 1);
        int[] not = {LOWEST, -1, 0, 13, HIGHEST};
        for (int v : not) due.is("usual(" + v + ")", x.usual(v), NONE);
        due.is("there is none yet", x.place(0, 0, 1), NONE);
        due.is("least", x.usual(1), 1);
        due.is("its place", x.place(0, 0, 1), 1);
        due.is("no other", x.place(1, 0, 1), NONE);
        due.is("most", x.usual(12), 1);
        due.is("its last place", x.place(11, 0, 1), 1);
        due.is("no other", x.place(12, 0, 1), NONE);
    }

    private static void usualWithoutGuests() {
        due.by(6, "PERIOD of the USUAL CROWD, all its places without GUESTS: 1.");
        StormBench x = with(9, 20, 1);
        x.usual(12);
        for (int i = 0; i < 12; i++) x.place(i, 0, 5);
        due.is("refused", x.usual(13), NONE);
        x.ticks(1);
        due.is("what is refused changes nothing", x.count(4), 5);
        x.usual(2);
        x.ticks(3);
        due.is("a shorter one", x.count(4), 5);
        x.usual(12);
        x.ticks(12);
        due.is("a longer one brings nothing back", x.count(4), 5);
    }

    private static void places() {
        due.by(7, "A place of it (0 .. PERIOD - 1)");
        StormBench x = with(9, 20, 1);
        x.usual(5);
        int[] not = {LOWEST, -1, 5, 11, 12, HIGHEST};
        for (int p : not) due.is("place(" + p + ", 0, 1)", x.place(p, 0, 1), NONE);
        due.is("least", x.place(0, 0, 1), 1);
        due.is("most", x.place(4, 0, 1), 1);
    }

    private static void placeWithoutPeriod() {
        due.by(7, "(none at first)");
        StormBench x = with(1, 1, 1);
        for (int p = -1; p <= 12; p++) due.is("place(" + p + ", 0, 0)", x.place(p, 0, 0), NONE);
        x.ticks(24);
        due.is("none came", x.count(4), 0);
    }

    private static void keyOfPlace() {
        due.by(7, "a KEY (0 .. 7)");
        StormBench x = with(9, 20, 9);
        x.usual(2);
        int[] not = {LOWEST, -1, 8, HIGHEST};
        for (int key : not) due.is("place(0, " + key + ", 1)", x.place(0, key, 1), NONE);
        due.is("least", x.place(1, 0, 1), 1);
        due.is("most", x.place(0, 7, 1), 1);
        x.ticks(2);
        due.is("least", x.guest(0, 0), 0);
        due.is("most", x.guest(1, 0), 7);
    }

    private static void manyOfPlace() {
        due.by(7, "many (0 .. 5) of a KEY: 1.");
        StormBench x = with(9, 20, 1);
        x.usual(1);
        int[] not = {LOWEST, -1, 6, HIGHEST};
        for (int many : not) due.is("place(0, 0, " + many + ")", x.place(0, 0, many), NONE);
        x.ticks(1);
        due.is("none came", x.count(4), 0);
        due.is("most", x.place(0, 0, 5), 1);
        x.ticks(1);
        due.is("five came", x.count(4), 5);
        due.is("least", x.place(0, 0, 0), 1);
        x.ticks(1);
        due.is("none came", x.count(4), 5);
    }

    // ---- promise 8

    private static void ticksOfACall() {
        due.by(8, "n (1 .. 500) TICKS go by: TICK.");
        StormBench x = with(1, 1, 1);
        int[] not = {LOWEST, -1, 0, 501, HIGHEST};
        for (int n : not) due.is("ticks(" + n + ")", x.ticks(n), NONE);
        due.is("none went by", x.count(1), 0);
        due.is("least", x.ticks(1), 1);
        due.is("most", x.ticks(500), 501);
        due.is("TICK", x.count(1), 501);
    }

    private static void beyondTheLastTick() {
        due.by(8, "NONE (also beyond 100000)");
        StormBench x = with(1, 1, 1);
        x.crowd(100000, 3, 1);
        for (int i = 1; i < 200; i++) x.ticks(500);
        due.is("TICK", x.count(1), 99500);
        due.is("one to the last one", x.ticks(499), 99999);
        due.is("one too many", x.ticks(2), NONE);
        due.is("TICK stays", x.count(1), 99999);
        due.is("to the last one", x.ticks(1), 100000);
        due.is("those told for it came", x.count(4), 1);
        due.is("beyond", x.ticks(1), NONE);
        due.is("beyond", x.ticks(500), NONE);
        due.is("nothing can be told any more", x.crowd(100000, 0, 1), NONE);
        due.is("nor beyond", x.crowd(100001, 0, 1), NONE);
        due.is("what would be is told all the same", x.rest(400), 1);
        due.is("one works, one waits", x.bears(0, 24), 2);
        due.is("TICK stays", x.count(1), 100000);
    }

    private static void ticksWithoutService() {
        due.by(8, "STATE: there is no SERVICE.");
        StormBench x = new StormBench();
        due.is("STATE", x.ticks(1), STATE);
        due.is("STATE", x.ticks(500), STATE);
        due.is("NONE ahead of STATE", x.ticks(0), NONE);
        due.is("NONE ahead of STATE", x.ticks(501), NONE);
        due.is("TICK stays", x.count(1), 0);
    }

    // ---- promises 9 to 15: what there isn't

    private static void about() {
        due.by(9, "NONE (4: -1, too).");
        StormBench x = busy();
        int[] not = {LOWEST, -1, 13, HIGHEST};
        for (int what : not) due.is("about(0, " + what + ")", x.about(0, what), NONE);
        int[] services = {LOWEST, -1, 2, 5, 6, HIGHEST};
        for (int s : services) for (int what = 0; what <= 12; what++) due.is("no such service", x.about(s, what), NONE);
        due.is("no rest, no next one", x.about(1, 4), -1);
    }

    private static void ruleOf() {
        due.by(10, "A rule as it is (what as rule()); 9 ROOM. NONE.");
        StormBench x = with(4, 20, 6);
        int[] not = {LOWEST, -1, 10, HIGHEST};
        for (int what : not) due.is("ruleOf(0, " + what + ")", x.ruleOf(0, what), NONE);
        due.is("ROOM", x.ruleOf(0, 9), 20);
        int[] services = {LOWEST, -1, 1, 5, 6, HIGHEST};
        for (int s : services) due.is("ruleOf(" + s + ", 0)", x.ruleOf(s, 0), NONE);
    }

    private static void kept() {
        due.by(11, "NEVER: none is (any more). NONE.");
        StormBench x = with(4, 3, 6);
        int[] not = {LOWEST, -1, 8, HIGHEST};
        for (int key : not) due.is("kept(0, " + key + ")", x.kept(0, key), NONE);
        for (int key = 0; key <= 7; key++) due.is("none is", x.kept(0, key), NEVER);
        int[] services = {LOWEST, -1, 1, 5, 6, HIGHEST};
        for (int s : services) due.is("kept(" + s + ", 0)", x.kept(s, 0), NONE);
    }

    private static void job() {
        due.by(12, "The i-th JOB that is there, by numbers");
        StormBench x = with(4, 3, 6);
        due.is("there is none", x.job(0, 0), NONE);
        x.crowd(1, 5, 7);
        x.ticks(1);
        int[] not = {LOWEST, -1, 7, HIGHEST};
        for (int i : not) for (int what = 0; what <= 6; what++) due.is("no such job", x.job(i, what), NONE);
        for (int what : not) due.is("job(0, " + what + ")", x.job(0, what), NONE);
        due.is("the first", x.job(0, 0), 0);
        due.is("the last", x.job(6, 0), 6);
        x.ticks(6);
        due.is("the first that is there", x.job(0, 0), 4);
        due.is("the last that is there", x.job(2, 0), 6);
        due.is("no more", x.job(3, 0), NONE);
    }

    private static void row() {
        due.by(13, "The i-th in the row of a SERVICE: the JOB's number. NONE.");
        StormBench x = with(1, 20, 6);
        due.is("an empty row", x.row(0, 0), NONE);
        x.crowd(1, 5, 30);
        x.ticks(1);
        due.is("the first", x.row(0, 0), 1);
        due.is("the last of a full row", x.row(0, 19), 20);
        int[] not = {LOWEST, -1, 20, HIGHEST};
        for (int i : not) due.is("row(0, " + i + ")", x.row(0, i), NONE);
        int[] services = {LOWEST, -1, 1, 5, 6, HIGHEST};
        for (int s : services) due.is("row(" + s + ", 0)", x.row(s, 0), NONE);
    }

    private static void guest() {
        due.by(14, "The i-th GUEST that is there, in the order in which they came");
        StormBench x = with(1, 2, 6);
        due.is("there is none", x.guest(0, 0), NONE);
        x.crowd(1, 5, 3);
        x.ticks(1);
        int[] not = {LOWEST, -1, HIGHEST};
        for (int i : not) for (int what = 0; what <= 3; what++) due.is("no such guest", x.guest(i, what), NONE);
        for (int what : not) due.is("guest(0, " + what + ")", x.guest(0, what), NONE);
        due.is("no such what", x.guest(0, 4), NONE);
        due.is("the last", x.guest(2, 1), 2);
        due.is("no more", x.guest(3, 1), NONE);
        x.ticks(6);
        due.is("the first is gone", x.guest(0, 1), 1);
        due.is("no more", x.guest(2, 1), NONE);
    }

    private static void count() {
        due.by(15, "11 1 if the latest TICK was STILL, else 0 (1 ahead of any). NONE.");
        StormBench x = with(1, 0, 6);
        int[] not = {LOWEST, -1, 12, HIGHEST};
        for (int what : not) due.is("count(" + what + ")", x.count(what), NONE);
        due.is("ahead of any", x.count(11), 1);
        x.crowd(1, 0, 2);
        x.ticks(1);
        due.is("else", x.count(11), 0);
        x.ticks(2);
        due.is("the latest one", x.count(11), 1);
    }

    // ---- promises 16 to 19

    private static void trialNumbers() {
        due.by(16, "TO REST within N (24 .. 400)");
        StormBench x = with(1, 0, 1);
        int[] not = {LOWEST, -1, 0, 23, 401, HIGHEST};
        for (int n : not) {
            due.is("rest(" + n + ")", x.rest(n), NONE);
            due.is("bears(0, " + n + ")", x.bears(0, n), NONE);
            due.is("best(0, 0, 0, " + n + ")", x.best(0, 0, 0, n), NONE);
        }
        int[] asSaid = {24, 400};
        for (int n : asSaid) {
            due.is("rest(" + n + ")", x.rest(n), 1);
            due.is("bears(0, " + n + ")", x.bears(0, n), n == 24 ? 1 : 30);
            due.is("best(0, 0, 0, " + n + ")", x.best(0, 0, 0, n), 0);
        }
        due.by(17, "NONE (n as rest(); key 0 .. 7), STATE, NEVER.");
        int[] keys = {LOWEST, -1, 8, HIGHEST};
        for (int key : keys) due.is("bears(" + key + ", 24)", x.bears(key, 24), NONE);
        due.is("least", x.bears(0, 24), 1);
        due.is("most", x.bears(7, 24), 1);
    }

    private static void bestNumbers() {
        due.by(18, "NONE (many 0 .. 30); NEVER: none of them.");
        StormBench x = with(1, 0, 1);
        int[] not = {LOWEST, -1, 31, HIGHEST};
        for (int many : not) due.is("best(0, 0, " + many + ", 24)", x.best(0, 0, many, 24), NONE);
        due.is("least", x.best(0, 0, 0, 24), 0);
        due.is("most", x.best(0, 0, 30, 26), 0);
        int[] keys = {LOWEST, -1, 8, HIGHEST};
        for (int key : keys) due.is("best(0, " + key + ", 0, 24)", x.best(0, key, 0, 24), NONE);
        int[] services = {LOWEST, -1, 1, 5, 6, HIGHEST};
        for (int s : services) due.is("best(" + s + ", 0, 0, 24)", x.best(s, 0, 0, 24), NONE);
        due.is("none of them", x.best(0, 0, 30, 25), NEVER);
    }

    private static void answersOfTrialsInOrder() {
        due.by(16, "NONE; STATE: there is no SERVICE.");
        StormBench x = new StormBench();
        due.is("STATE", x.rest(24), STATE);
        due.is("STATE", x.rest(400), STATE);
        due.is("NONE ahead of STATE", x.rest(23), NONE);
        due.is("NONE ahead of STATE", x.rest(401), NONE);
        due.by(17, "NONE (n as rest(); key 0 .. 7), STATE, NEVER.");
        due.is("STATE", x.bears(7, 400), STATE);
        due.is("NONE ahead of STATE", x.bears(8, 400), NONE);
        due.is("NONE ahead of STATE", x.bears(7, 401), NONE);
        due.by(18, "NONE (many 0 .. 30); NEVER: none of them.");
        due.is("there is no such service", x.best(0, 0, 0, 24), NONE);
    }

    // ---- all calls

    private static int call(StormBench x, int which, int[] a) {
        switch (which) {
            case 0: return x.service(a[0], a[1], a[2]);
            case 1: return x.rule(a[0], a[1], a[2]);
            case 2: return x.guests(a[0], a[1]);
            case 3: return x.crowd(a[0], a[1], a[2]);
            case 4: return x.usual(a[0]);
            case 5: return x.place(a[0], a[1], a[2]);
            case 6: return x.ticks(a[0]);
            case 7: return x.about(a[0], a[1]);
            case 8: return x.ruleOf(a[0], a[1]);
            case 9: return x.kept(a[0], a[1]);
            case 10: return x.job(a[0], a[1]);
            case 11: return x.row(a[0], a[1]);
            case 12: return x.guest(a[0], a[1]);
            case 13: return x.count(a[0]);
            case 14: return x.rest(a[0]);
            case 15: return x.bears(a[0], a[1]);
            default: return x.best(a[0], a[1], a[2], a[3]);
        }
    }

    /** Each call with one number far from all that is said, the others as said, in an empty house and a busy one. */
    private static void lowestAndHighest() {
        due.by(2, "NONE (-1): there is no such thing, or a number is not as said");
        int[][] asSaid = {{1, 1, 1}, {0, 0, 1}, {0, 1}, {50, 1, 1}, {1}, {0, 1, 1}, {1}, {0, 0}, {0, 0}, {0, 0}, {0, 0},
            {0, 0}, {0, 0}, {0}, {24}, {0, 24}, {0, 0, 0, 24}};
        int[] far = {LOWEST, LOWEST + 1, -100001, 200000, HIGHEST - 1, HIGHEST};
        StormBench empty = new StormBench();
        StormBench busy = busy();
        for (int which = 0; which < asSaid.length; which++) {
            for (int at = 0; at < asSaid[which].length; at++) {
                for (int v : far) {
                    int[] a = asSaid[which].clone();
                    a[at] = v;
                    due.is("call " + which + ", number " + at + " is " + v, call(empty, which, a), NONE);
                    due.is("call " + which + ", number " + at + " is " + v, call(busy, which, a), NONE);
                }
            }
        }
        due.same("behind all these", empty, new StormBench());
        due.same("behind all these", busy, busy());
    }

    private static void refusedChangesNothing() {
        due.by(2, "What is refused changes nothing.");
        StormBench x = busy();
        StormBench y = busy();
        for (int i = 0; i < 39; i++) {
            x.crowd(95, 0, 1);
            y.crowd(95, 0, 1);
        }
        due.is("service", x.service(1, 1, 1), STATE);
        due.is("service", x.service(0, 1, 1), NONE);
        for (int what = 0; what <= 9; what++) due.is("rule", x.rule(0, what, 61), NONE);
        due.is("rule", x.rule(2, 0, 1), NONE);
        due.is("guests", x.guests(0, 61), NONE);
        due.is("guests", x.guests(1, 4), NONE);
        due.is("guests", x.guests(2, 1), NONE);
        due.is("crowd", x.crowd(5, 0, 1), NONE);
        due.is("crowd", x.crowd(6, 0, 1), FULL);
        due.is("usual", x.usual(13), NONE);
        due.is("place", x.place(5, 0, 1), NONE);
        due.is("place", x.place(0, 8, 1), NONE);
        due.is("place", x.place(0, 0, 6), NONE);
        due.is("ticks", x.ticks(501), NONE);
        due.is("rest", x.rest(401), NONE);
        due.is("bears", x.bears(8, 100), NONE);
        due.is("best", x.best(0, 1, 31, 100), NONE);
        due.is("best", x.best(0, 1, 30, 24), NEVER);
        due.same("at once", x, y);
        due.is("ticks", x.ticks(100), y.ticks(100));
        due.same("100 ticks later", x, y);
    }
}
