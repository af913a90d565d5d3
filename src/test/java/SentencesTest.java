/** The sentences of the document that name no edge, from its first line on: each by a run worked out by hand. */
public final class SentencesTest {
    private static final int NONE = Due.NONE, NEVER = Due.NEVER;
    private static final Due due = new Due();

    public static void main(String[] args) {
        tickIsACount(); tickIsOneMore();
        callers(); states(); hands();
        hitOfAJob(); firstOfTheRowGoes(); refusedWithoutOldest();
        overAndGone(); answeredIfItStillAsks(); answeredGoodOrBad(); rowOfFails(); againOrOver(); toAsk();
        workEnds(); givenUp(); rowsOfEachService();
        guestsAsk(); servedAndLost(); usualCrowd();
        firstOfThoseTicks(); borneWithinN(); setForAKey(); setsNothing();
        answers(); memoryOfItsOwn(); callsOfOneObject();
        serviceIsTheNext(); ruleBecomes();
        storyOfAHouse();
        due.end();
    }

    private static StormBench with(int hands, int room, int work) {
        StormBench x = new StormBench();
        x.service(hands, room, work);
        return x;
    }

    private static StormBench with(int hands, int room, int work, int nextHands, int nextRoom, int nextWork) {
        StormBench x = with(hands, room, work);
        x.service(nextHands, nextRoom, nextWork);
        return x;
    }

    private static void jobIs(StormBench x, int i, int... all) {
        for (int what = 0; what < all.length; what++) due.is("job(" + i + ", " + what + ")", x.job(i, what), all[what]);
    }

    private static void guestIs(StormBench x, int i, int... all) {
        for (int what = 0; what < all.length; what++) due.is("guest(" + i + ", " + what + ")", x.guest(i, what), all[what]);
    }

    private static void aboutIs(StormBench x, int service, int... all) {
        for (int what = 0; what < all.length; what++) {
            due.is("about(" + service + ", " + what + ") by " + x.count(1), x.about(service, what), all[what]);
        }
    }

    // ---- ======== 1

    private static void tickIsACount() {
        due.by(1, "TICK is a count, 0 at first.");
        StormBench x = new StormBench();
        due.is("0 at first", x.count(1), 0);
        x.service(1, 0, 1);
        x.crowd(1, 0, 1);
        due.is("no call but ticks() counts", x.count(1), 0);
    }

    private static void tickIsOneMore() {
        due.by(8, "A TICK, in this order: TICK is one more.");
        StormBench x = with(1, 0, 1);
        due.is("one", x.ticks(1), 1);
        due.is("two", x.ticks(1), 2);
        due.is("five", x.ticks(3), 5);
        due.is("five", x.count(1), 5);
    }

    private static void callers() {
        due.by(12, "A JOB is at a SERVICE, for a KEY (0 .. 7), asked by a CALLER: a JOB of the SERVICE ahead, or a GUEST.");
        StormBench x = with(1, 0, 1, 1, 0, 1);
        x.service(1, 0, 9);
        x.crowd(1, 5, 1);
        x.ticks(3);
        jobIs(x, 0, 0, 0, 5, 2, -4);
        jobIs(x, 1, 1, 1, 5, 2, 0);
        jobIs(x, 2, 2, 2, 5, 1, 1);
    }

    /** By TICK 2 of service 0 job 0 asks, job 1 was refused and pauses, jobs 3 and 4 wait; job 2 of service 1 works. */
    private static StormBench allStates() {
        StormBench x = with(2, 2, 1, 1, 0, 9);
        x.rule(0, 1, 1);
        x.rule(0, 2, 9);
        x.crowd(1, 0, 2);
        x.crowd(2, 3, 2);
        x.ticks(2);
        return x;
    }

    private static void states() {
        due.by(12, "It WAITS (in the row of its SERVICE), WORKS (till a TICK), ASKS (NEXT has a JOB for it, till a "
            + "DEADLINE), or PAUSES (till a TICK).");
        StormBench x = allStates();
        jobIs(x, 0, 0, 0, 0, 2, -4, 12, 0);
        jobIs(x, 1, 1, 0, 0, 3, -4, 12, 0);
        jobIs(x, 2, 2, 1, 0, 1, 0, 11, 0);
        jobIs(x, 3, 3, 0, 3, 0, -4, -4, 0);
        jobIs(x, 4, 4, 0, 3, 0, -4, -4, 0);
        due.is("in the row", x.row(0, 0) * 10 + x.row(0, 1), 34);
        aboutIs(x, 0, 2, 0, 1, 1);
        aboutIs(x, 1, 0, 1, 0, 0);
    }

    private static void hands() {
        due.by(9, "One that WORKS, ASKS or PAUSES has a HAND of its SERVICE.");
        StormBench x = allStates();
        x.ticks(1);
        due.is("both hands are had, by one that asks and one that pauses", x.about(0, 0), 2);
        x.rule(0, 7, 3);
        x.ticks(1);
        due.is("a third one takes one of the two that wait", x.about(0, 0) * 10 + x.about(0, 1), 11);
    }

    // ---- how a job comes

    private static void hitOfAJob() {
        due.by(9, "A JOB COMES to a SERVICE, for a KEY, from a CALLER: if the SERVICE has KEPT an answer for that KEY, and "
            + "TICK is not beyond the TICK till which it is KEPT: the CALLER is answered GOOD at once, there is no JOB "
            + "(it is a HIT).");
        // Job 1 of service 1 is over by 5; job 2 of service 0 asks by 7 and is over by that.
        StormBench x = with(2, 0, 1, 1, 0, 3);
        x.rule(1, 3, 20);
        x.crowd(1, 4, 1);
        x.crowd(6, 4, 1);
        x.ticks(6);
        due.is("kept", x.kept(1, 4), 25);
        x.ticks(1);
        due.is("a hit", x.about(1, 6), 1);
        due.is("answered, and its guest, too", x.about(0, 8) * 10 + x.count(5), 22);
        due.is("there was no job", x.count(10) * 10 + x.about(1, 7), 31);
        due.is("none is left", x.count(2), 0);
        due.is("service 0 keeps nothing", x.kept(0, 4), NEVER);
    }

    private static void firstOfTheRowGoes() {
        due.by(9, "Else (FULL ROW): with OLDEST, and ROOM not 0: the first one of the row goes from it");
        StormBench x = with(1, 2, 9);
        x.rule(0, 6, 1);
        x.crowd(1, 0, 4);
        x.ticks(1);
        due.is("job 1 went", x.row(0, 0) * 10 + x.row(0, 1), 23);
        due.is("two are left", x.row(0, 2), NONE);
        due.is("its guest has none", x.guest(1, 1), -3);
        due.is("the others have theirs", x.guest(2, 1) * 10 + x.guest(3, 1), 23);
    }

    private static void refusedWithoutOldest() {
        due.by(9, "without: this one is REFUSED: its CALLER is answered BAD at once.");
        StormBench x = with(1, 1, 9);
        x.crowd(1, 0, 3);
        x.ticks(1);
        due.is("job 1 stays", x.row(0, 0), 1);
        guestIs(x, 2, 0, -3, 2, 0);
        due.is("refused", x.about(0, 10), 1);
    }

    // ---- over, answered, failed

    private static void overAndGone() {
        due.by(9, "A JOB is OVER, GOOD or BAD: it is gone, its HAND is free");
        StormBench x = with(1, 0, 2);
        x.crowd(1, 0, 1);
        x.crowd(3, 0, 1);
        x.ticks(3);
        due.is("over and good", x.about(0, 8), 1);
        due.is("one is there", x.count(2) * 10 + x.job(0, 0), 11);
        due.is("it has the hand in the tick in which it was free", x.job(0, 5), 5);
        due.is("none was refused", x.about(0, 10), 0);
    }

    private static void answeredIfItStillAsks() {
        due.by(9, "if its CALLER still ASKS by it (has not given it up), that is answered so");
        // Job 0 gives job 1 up by 4 and asks by 5 anew, as job 1 is over; it gives job 2 up by 7, which is over by 8.
        StormBench x = with(1, 0, 1, 1, 0, 3);
        x.rule(0, 0, 2);
        x.rule(0, 1, 1);
        x.rule(0, 2, 0);
        x.crowd(1, 0, 1);
        x.ticks(5);
        due.is("job 1 was for nobody", x.about(1, 11), 1);
        jobIs(x, 0, 0, 0, 0, 2, -4, 7, 1);
        jobIs(x, 1, 2, 1, 0, 1, 0, 8, 0);
        x.ticks(3);
        due.is("so was job 2", x.about(1, 11), 2);
        due.is("good, and nobody was told", x.about(1, 8) * 10 + x.about(0, 8), 20);
        due.is("job 0 was not for nobody: its guest was told", x.about(0, 11) * 10 + x.about(0, 9), 1);
        due.is("lost", x.count(6), 1);
    }

    private static void answeredGoodOrBad() {
        due.by(9, "A JOB is answered GOOD: it is OVER, GOOD. BAD: it FAILS.");
        StormBench x = with(2, 0, 1, 1, 0, 2);
        x.crowd(1, 0, 2);
        x.ticks(2);
        due.is("job 1 fails", x.about(0, 12), 1);
        due.is("and is over, bad", x.about(0, 9) * 10 + x.about(0, 8), 10);
        x.ticks(2);
        due.is("job 0 is over, good", x.about(0, 9) * 10 + x.about(0, 8), 11);
        due.is("and did not fail", x.about(0, 12), 1);
    }

    private static void rowOfFails() {
        due.by(9, "FAILS: its SERVICE's ROW OF FAILS is one more");
        StormBench x = with(4, 0, 1, 1, 0, 9);
        x.crowd(1, 0, 4);
        x.ticks(2);
        due.is("three of four", x.about(0, 5) * 10 + x.about(0, 12), 33);
        due.is("not of the one that refused", x.about(1, 5), 0);
        due.by(9, "and the ROW is 0.");
        StormBench y = with(4, 0, 1, 1, 0, 9);
        y.rule(0, 4, 3);
        y.crowd(1, 0, 4);
        y.ticks(2);
        due.is("the third one makes it rest", y.about(0, 4), 12);
        due.is("the row is 0, the fails are three", y.about(0, 5) * 10 + y.about(0, 12), 3);
    }

    private static void againOrOver() {
        due.by(9, "Then, if it asked fewer times again than AGAIN: it PAUSES till the TICK that is TICK, and 1, and PAUSE "
            + "times 2 to the power of how often it asked again till now; else it is OVER, BAD.");
        // Refused by 2 and 5 and 10: pauses of 1 and 2, then of 1 and 4.
        StormBench x = with(2, 0, 1, 1, 0, 9);
        x.rule(0, 0, 40);
        x.rule(0, 1, 2);
        x.rule(0, 2, 2);
        x.crowd(1, 0, 2);
        x.ticks(2);
        jobIs(x, 1, 1, 0, 0, 3, -4, 5, 0);
        x.ticks(3);
        jobIs(x, 1, 1, 0, 0, 3, -4, 10, 1);
        x.ticks(5);
        due.is("over, bad, by 10", x.about(0, 9), 1);
        due.is("three fails", x.about(0, 12), 3);
        due.is("its guest is told", x.guest(1, 2), 11);
    }

    private static void toAsk() {
        due.by(9, "TO ASK: a JOB whose SERVICE has a NEXT: if its SERVICE RESTS: it is OVER, BAD. Else it ASKS, till TICK "
            + "and TIMEOUT, and a JOB COMES to NEXT for its KEY (an answer at once counts at once).");
        StormBench x = with(3, 0, 1, 1, 0, 9);
        x.rule(0, 0, 7);
        x.rule(0, 4, 1);
        x.crowd(1, 6, 3);
        x.ticks(2);
        jobIs(x, 0, 0, 0, 6, 2, -4, 9, 0);
        jobIs(x, 1, 3, 1, 6, 1, 0, 11, 0);
        due.is("job 1 was refused at once", x.about(1, 10), 1);
        due.is("so job 2, in the same tick, met a rest and asked nobody", x.about(0, 12) * 10 + x.about(0, 9), 12);
        guestIs(x, 1, 6, -3, 3, 0);
        guestIs(x, 2, 6, -3, 3, 0);
    }

    // ---- ======== 2

    private static void workEnds() {
        due.by(8, "with a NEXT: TO ASK; without: OVER, GOOD.");
        StormBench x = with(1, 0, 2, 1, 0, 2);
        x.crowd(1, 0, 1);
        x.ticks(3);
        aboutIs(x, 0, 0, 0, 1, 0);
        aboutIs(x, 1, 0, 1, 0, 0);
        x.ticks(2);
        due.is("both over, good", x.about(1, 8) * 10 + x.about(0, 8), 11);
    }

    private static void givenUp() {
        due.by(8, "give their JOB up (if they have one)");
        // Guest 1 is refused by 1 and, without a job, by 2, and lost by 3; guest 0 gives job 0 up by 3.
        StormBench x = with(1, 0, 9);
        x.guests(0, 2);
        x.guests(1, 1);
        x.crowd(1, 0, 2);
        x.ticks(2);
        due.is("guest 0 has job 0", x.job(0, 4), -4);
        guestIs(x, 1, 0, -3, 3, 1);
        x.ticks(1);
        due.is("nobody asks by job 0", x.job(0, 4), -3);
        guestIs(x, 0, 0, -3, 4, 1);
        due.is("asked again twice, one lost", x.count(7) * 10 + x.count(6), 21);
    }

    private static void rowsOfEachService() {
        due.by(8, "5 Each SERVICE, the first one first: as long as a HAND is free and someone WAITS: the first one WORKS, "
            + "till TICK and WORK.");
        // By 4 job 4 of service 1 is over, and job 0 by that: in either row the first one begins.
        StormBench x = with(2, 2, 1, 1, 1, 2);
        x.crowd(1, 0, 4);
        x.ticks(3);
        due.is("rows", x.row(0, 0) * 100 + x.row(0, 1) * 10 + x.row(1, 0), 235);
        x.ticks(1);
        due.is("what is left of the first row", x.row(0, 0), 3);
        due.is("and no more", x.row(0, 1), NONE);
        due.is("nothing of the second", x.row(1, 0), NONE);
        jobIs(x, 1, 2, 0, 0, 1, -4, 5, 0);
        jobIs(x, 3, 5, 1, 0, 1, 1, 6, 0);
    }

    private static void guestsAsk() {
        due.by(14, "GUESTS: each with a KEY; it asks SERVICE 0 as it comes, and has a DEADLINE, TICK and PATIENCE");
        StormBench x = with(1, 0, 1, 1, 0, 1);
        x.crowd(1, 7, 1);
        x.ticks(1);
        guestIs(x, 0, 7, 0, 21, 0);
        jobIs(x, 0, 0, 0, 7, 1, -4, 2, 0);
    }

    private static void servedAndLost() {
        due.by(14, "Answered GOOD it is SERVED, and gone");
        StormBench x = with(1, 0, 1);
        x.crowd(1, 0, 1);
        x.ticks(2);
        due.is("served", x.count(5) * 10 + x.count(6), 10);
        due.is("gone", x.count(3), 0);
        due.is("gone", x.guest(0, 0), NONE);
        due.by(14, "LOST ones are gone.");
        StormBench y = with(1, 0, 9);
        y.guests(0, 1);
        y.crowd(1, 0, 1);
        y.ticks(2);
        due.is("lost", y.count(5) * 10 + y.count(6), 1);
        due.is("gone", y.count(3), 0);
        due.is("gone", y.guest(0, 0), NONE);
    }

    private static void usualCrowd() {
        due.by(6, "USUAL CROWD: a PERIOD (1 .. 12) and for each place of it how many GUESTS (0 .. 5) and of which KEY: in "
            + "each TICK those of place TICK % PERIOD");
        StormBench x = with(9, 20, 9);
        x.usual(2);
        x.place(1, 3, 2);
        int[] came = {2, 2, 4, 4, 6};
        for (int i = 0; i < came.length; i++) {
            x.ticks(1);
            due.is("by " + (i + 1), x.count(4), came[i]);
        }
        for (int i = 0; i < 6; i++) due.is("of that KEY", x.guest(i, 0), 3);
    }

    // ---- ======== 3

    private static void firstOfThoseTicks() {
        due.by(16, "the first of those TICKS (1 ..); NEVER.");
        // One of two is refused by 1, lost by 2: seen from TICK 1 the first still tick is the second one.
        StormBench x = with(1, 0, 1);
        due.is("nothing is there", x.rest(24), 1);
        x.crowd(1, 0, 2);
        x.ticks(1);
        due.is("25 are needed", x.rest(24), NEVER);
        due.is("2 to 25", x.rest(25), 2);
        x.ticks(1);
        due.is("1 to 24", x.rest(24), 1);
    }

    private static void borneWithinN() {
        due.by(17, "BEARS by N: the greatest b (0 .. 30) such that with each number of 0 .. b GUESTS of a KEY more in the "
            + "next TICK (ahead of the USUAL ones) it comes TO REST within N; NEVER, if not even with 0.");
        // What is more than hand and row hold is refused by 1 and lost by 2: at rest from 3 to 26.
        StormBench x = with(2, 3, 1);
        due.is("five in 24", x.bears(0, 24), 5);
        due.is("five in 25", x.bears(0, 25), 5);
        due.is("any in 26", x.bears(0, 26), 30);
        // Of six by 1 the last one is lost by 2; two of the row work from then on, so that two of its places are free.
        x.crowd(1, 0, 6);
        x.ticks(1);
        due.is("not even with 0", x.bears(0, 24), NEVER);
        due.is("from the second one on", x.bears(0, 25), 2);
    }

    private static void setForAKey() {
        due.by(18, "SET for a SERVICE, by a b and N: of all AGAIN 0 .. 3 and PAUSE 0 .. 3 (all else as it is) with which b "
            + "GUESTS more of the KEY in the next TICK come TO REST within N: that of the least PRICE");
        StormBench x = with(1, 0, 1);
        x.rule(0, 3, 60);
        x.crowd(1, 7, 1);
        x.ticks(2);
        due.is("of a kept KEY all are served", x.best(0, 7, 30, 24), 0);
        due.is("price", x.price(), 0);
        due.is("of another one they are not", x.best(0, 0, 30, 24), NEVER);
        due.is("all but one are lost", x.best(0, 0, 30, 26), 0);
        due.is("price", x.price(), 29);
    }

    private static void setsNothing() {
        due.by(18, "SET: 10 times AGAIN, and PAUSE; nothing is set by this.");
        StormBench x = with(2, 0, 1, 1, 0, 3);
        due.is("AGAIN 1 and PAUSE 2", x.best(0, 0, 2, 100), 12);
        due.is("AGAIN as it was", x.ruleOf(0, 1), 0);
        due.is("PAUSE as it was", x.ruleOf(0, 2), 1);
        x.crowd(1, 0, 2);
        x.ticks(3);
        due.is("so one is lost", x.count(6), 1);
        StormBench y = with(2, 0, 1, 1, 0, 3);
        y.rule(0, 1, 1);
        y.rule(0, 2, 2);
        y.crowd(1, 0, 2);
        y.ticks(20);
        due.is("with these set both are served", y.count(5), 2);
    }

    // ---- ======== 4

    private static void answers() {
        due.by(2, "Answers, the first that a call names: NONE (-1): there is no such thing, or a number is not as said; "
            + "FULL (-2); STATE (-3): as told; NEVER (-4).");
        StormBench x = new StormBench();
        due.is("NONE", x.service(0, 0, 1), -1);
        due.is("STATE", x.ticks(1), -3);
        for (int i = 0; i < 6; i++) x.service(1, 0, 1);
        due.is("FULL", x.service(1, 0, 1), -2);
        due.is("NEVER", x.kept(0, 0), -4);
        due.is("NONE", StormBench.NONE, -1);
        due.is("FULL", StormBench.FULL, -2);
        due.is("STATE", StormBench.STATE, -3);
        due.is("NEVER", StormBench.NEVER, -4);
    }

    private static void memoryOfItsOwn() {
        due.by(1, "All memory is the class's own.");
        StormBench x = with(1, 0, 1);
        StormBench y = with(9, 20, 1);
        StormBench z = with(9, 20, 1);
        x.rule(0, 3, 60);
        x.crowd(1, 0, 30);
        x.ticks(7);
        x.best(0, 1, 30, 26);
        due.same("nothing of one object is another's", y, z);
        due.is("bears", y.bears(0, 24), 29);
        x.ticks(7);
        due.is("rest", y.rest(24), 1);
        due.same("nor of what it tries", y, z);
    }

    private static void callsOfOneObject() {
        due.by(1, "An object is used for at most 512 calls after it has been made; what later calls answer is free.");
        StormBench x = with(9, 20, 1);
        for (int i = 2; i <= 510; i++) {
            if (i % 3 == 0) x.best(0, i % 8, i % 31, 24 + i % 377);
            else if (i % 3 == 1) x.ticks(1);
            else due.is("a telling", x.crowd(x.count(1) + 1, i % 8, 1 + i % 30) > 0 ? 1 : 0, 1);
        }
        due.is("each tick", x.count(1), 169);
        due.is("a trial as ever", x.rest(400) > 0 ? 1 : 0, 1);
    }

    // ---- promises 2 and 3

    private static void serviceIsTheNext() {
        due.by(2, "A new SERVICE, the NEXT of the one ahead: its number.");
        StormBench x = new StormBench();
        due.is("the first", x.service(1, 0, 1), 0);
        due.is("the second", x.service(1, 0, 1), 1);
        x.crowd(1, 0, 1);
        x.ticks(2);
        due.is("is asked by the first", x.job(1, 1) * 10 + x.job(1, 4), 10);
    }

    private static void ruleBecomes() {
        due.by(3, "A rule of a SERVICE becomes v: what it was.");
        StormBench x = with(1, 0, 1, 1, 0, 1);
        due.is("what it was", x.rule(1, 0, 33), 10);
        due.is("what it was", x.rule(1, 0, 34), 33);
        due.is("of that one", x.ruleOf(1, 0), 34);
        due.is("not of another", x.ruleOf(0, 0), 10);
    }

    // ---- one house, told by all that can be asked of it

    /** Each of the first seven rules acts in this house. */
    private static StormBench house() {
        StormBench x = with(2, 1, 1, 1, 0, 2);
        x.rule(0, 0, 7);
        x.rule(0, 1, 1);
        x.rule(0, 2, 4);
        x.rule(1, 3, 9);
        x.rule(0, 4, 1);
        x.rule(0, 5, 6);
        x.rule(0, 6, 1);
        x.crowd(1, 3, 5);
        x.crowd(9, 3, 1);
        return x;
    }

    /**
     * By 1: jobs 0 and 1 work, jobs 2 and 3 are pushed out of a row of one, job 4 waits.
     * By 2: job 0 asks job 5; job 1 is refused, fails and pauses; service 0 rests up to 8; two guests are lost.
     * By 4: job 5 is over, kept till 13, and job 0 by that; job 4 works. By 5: job 4 meets the rest.
     * By 6: its guest is lost. By 7: job 1 meets the rest. By 8: its guest is lost.
     */
    private static void storyOfAHouse() {
        StormBench x = house();
        x.ticks(2);
        due.by(3, "what: 0 TIMEOUT, 1 AGAIN, 2 PAUSE, 3 KEEP, 4 SICK, 5 REST, 6 OLDEST");
        due.is("TIMEOUT", x.job(0, 5), 2 + 7);
        due.is("AGAIN and PAUSE", x.job(1, 5), 2 + 1 + 4);
        due.is("SICK and REST", x.about(0, 4), 2 + 6);
        due.is("OLDEST", x.about(0, 10), 2);
        due.by(12, "0 its number, 1 SERVICE, 2 KEY, 3 state (0 WAITS, 1 WORKS, 2 ASKS, 3 PAUSES), 4 the number of its "
            + "CALLER (-4: a GUEST; -3: nobody asks by it any more)");
        jobIs(x, 0, 0, 0, 3, 2, -4, 9, 0);
        jobIs(x, 1, 1, 0, 3, 3, -4, 7, 0);
        jobIs(x, 2, 4, 0, 3, 0, -4, -4, 0);
        jobIs(x, 3, 5, 1, 3, 1, 0, 4, 0);
        due.by(14, "0 KEY, 1 the JOB that is for it (-3: none), 2 its DEADLINE");
        guestIs(x, 0, 3, 0, 21, 0);
        guestIs(x, 1, 3, 1, 21, 0);
        guestIs(x, 2, 3, 4, 21, 0);
        aboutThen(x, new int[] {1, 0, 1, 1, 8, 0, 0, 2, 0, 0, 2, 0, 1}, new int[] {0, 1, 0, 0, -1, 0, 0, 1, 0, 0, 1, 0, 0});
        x.ticks(2);
        due.by(11, "Up to which TICK an answer for a KEY is KEPT by a SERVICE");
        due.is("KEEP", x.kept(1, 3), 4 + 9);
        due.is("not by service 0", x.kept(0, 3), NEVER);
        x.ticks(1);
        due.by(14, "0 KEY, 1 the JOB that is for it (-3: none), 2 its DEADLINE");
        guestIs(x, 1, 3, -3, 6, 0);
        x.ticks(3);
        aboutThen(x, new int[] {0, 0, 0, 0, 8, 0, 0, 3, 1, 2, 2, 0, 1}, new int[] {0, 0, 0, 0, -1, 0, 0, 1, 1, 0, 1, 0, 0});
        endOfAHouse(x);
    }

    /** By 10 job 6 has a hit. By 12 job 7 asks job 8, and its guest gives up; by 14 both are over, one for nobody. */
    private static void endOfAHouse(StormBench x) {
        x.ticks(2);
        aboutThen(x, new int[] {0, 0, 0, 0, -1, 0, 0, 4, 2, 2, 2, 0, 1}, new int[] {0, 0, 0, 0, -1, 0, 1, 1, 1, 0, 1, 0, 0});
        x.guests(0, 1);
        x.crowd(11, 5, 1);
        x.ticks(2);
        due.by(12, "0 its number, 1 SERVICE, 2 KEY, 3 state (0 WAITS, 1 WORKS, 2 ASKS, 3 PAUSES), 4 the number of its "
            + "CALLER (-4: a GUEST; -3: nobody asks by it any more)");
        jobIs(x, 0, 7, 0, 5, 2, -3, 19, 0);
        jobIs(x, 1, 8, 1, 5, 1, 7, 14, 0);
        x.ticks(2);
        aboutThen(x, new int[] {0, 0, 0, 0, -1, 0, 0, 5, 3, 2, 2, 1, 1}, new int[] {0, 0, 0, 0, -1, 0, 1, 2, 2, 0, 1, 0, 0});
        due.by(15, "How many: 0 SERVICES, 1 TICK, 2 JOBS there, 3 GUESTS there, 4 GUESTS that came, 5 SERVED, 6 LOST, 7 times "
            + "that GUESTS asked again, 8 JOBS for NOBODY, 9 tellings kept, 10 JOBS that came in all (with a number)");
        int[] all = {2, 14, 0, 0, 7, 2, 5, 0, 1, 0, 9, 1};
        for (int what = 0; what < all.length; what++) due.is("count(" + what + ")", x.count(what), all[what]);
    }

    private static void aboutThen(StormBench x, int[] first, int[] second) {
        due.by(9, "Of a SERVICE: 0 JOBS that WAIT there, 1 WORK, 2 ASK, 3 PAUSE, 4 the TICK up to which it RESTS (-1: it does "
            + "not now), 5 its ROW OF FAILS, 6 HITS in all, 7 JOBS that came to WORK, 8 OVER and GOOD, 9 OVER and BAD, "
            + "10 REFUSED, 11 for NOBODY, 12 FAILS in all.");
        aboutIs(x, 0, first);
        aboutIs(x, 1, second);
    }
}
