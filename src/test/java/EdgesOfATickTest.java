/** What meets in one tick, goes by the order of its steps; and the edges of guests, tellings and the usual crowd. */
public final class EdgesOfATickTest {
    private static final int NONE = Due.NONE;
    private static final Due due = new Due();

    public static void main(String[] args) {
        workEndsByNumbers(); lowerNumberFirst(); workAheadOfPauses(); pausesAheadOfDeadlines();
        answerAheadOfDeadline(); deadlineAheadOfGuests(); servedAheadOfItsDeadline();
        guestsInTheirOrder(); guestsAheadOfTheRow(); rowAheadOfNewGuests(); toldAheadOfUsual();
        goneByThen(); pushedGuestIsPassedOver(); callerGivesUpFirst();
        patienceOne(); patienceSixty(); againNone(); againThree(); againBecomesLess(); badMakesDeadlineTheNextTick();
        deadlineAnew(); hitByAskingAgain(); newGuestHasNotAskedAgain();
        hundredGuests(); hundredAndOne(); hitMakesPlace(); usualAmongHundred();
        thirtyTold(); toldForLater();
        periodOne(); periodTwelve(); periodFive(); periodInTheMiddle();
        stillAheadOfAny(); stillWithLost(); stillWithAgain(); stillWithFail(); stillWithRefused(); stillWithNobody();
        due.end();
    }

    private static StormBench with(int hands, int room, int work) {
        StormBench x = new StormBench();
        x.service(hands, room, work);
        return x;
    }

    // ---- the order of a tick

    private static void workEndsByNumbers() {
        due.by(8, "1 All JOBS that WORK till TICK, by numbers");
        // By tick 3 job 1 (of service 1) ends its work, then job 2 asks service 1, whose hand is free by that.
        StormBench x = with(2, 0, 1);
        x.service(1, 0, 1);
        x.crowd(1, 0, 1);
        x.crowd(2, 0, 1);
        x.ticks(3);
        due.is("no fail", x.about(0, 12), 0);
        due.is("job 2 asks", x.job(0, 0) * 10 + x.job(0, 3), 22);
        due.is("job 3 works for it", x.job(1, 4), 2);
    }

    private static void lowerNumberFirst() {
        due.by(8, "1 All JOBS that WORK till TICK, by numbers");
        // By tick 6 job 0 asks service 1 while job 2 has its only hand, and is over only behind that.
        StormBench x = with(2, 0, 5);
        x.service(1, 0, 3);
        x.crowd(1, 0, 1);
        x.crowd(2, 0, 1);
        x.ticks(1);
        x.rule(0, 8, 1);
        x.ticks(5);
        due.is("job 0 fails", x.about(0, 12), 1);
        due.is("job 1 is answered in the same tick", x.count(5), 1);
        due.is("no job is left", x.count(2), 0);
    }

    private static void workAheadOfPauses() {
        due.by(8, "2 All JOBS that PAUSE till TICK, by numbers: TO ASK, once more again.");
        // By tick 5 job 2 of service 1 ends its work, and job 1, a lower number, ends its pause.
        StormBench x = with(2, 0, 1);
        x.service(1, 0, 3);
        x.rule(0, 1, 1);
        x.rule(0, 2, 2);
        x.crowd(1, 0, 2);
        x.ticks(2);
        due.is("pauses till 5", x.job(1, 5), 5);
        x.ticks(3);
        due.is("one fail", x.about(0, 12), 1);
        due.is("job 1 asks", x.job(0, 0) * 10 + x.job(0, 3), 12);
        due.is("once more again", x.job(0, 6), 1);
    }

    private static void pausesAheadOfDeadlines() {
        due.by(8, "3 All JOBS that ASK and whose DEADLINE is TICK, by numbers: FAIL.");
        // By tick 6 job 1 ends its pause and job 0 meets its deadline: were job 0 first, job 1 would find a rest.
        StormBench x = with(2, 0, 1);
        x.service(1, 0, 9);
        x.rule(0, 0, 4);
        x.rule(0, 1, 1);
        x.rule(0, 2, 3);
        x.crowd(1, 0, 2);
        x.ticks(2);
        due.is("job 0 asks till 6", x.job(0, 5), 6);
        due.is("job 1 pauses till 6", x.job(1, 5), 6);
        x.rule(0, 4, 1);
        x.ticks(4);
        due.is("both fail", x.about(0, 12), 3);
        due.is("rests", x.about(0, 4), 16);
        due.is("job 0 pauses", x.about(0, 3), 1);
        due.is("job 1 is over", x.about(0, 9), 1);
    }

    private static void answerAheadOfDeadline() {
        due.by(8, "3 All JOBS that ASK and whose DEADLINE is TICK, by numbers: FAIL.");
        StormBench x = with(1, 0, 1);
        x.service(1, 0, 5);
        x.rule(0, 0, 5);
        x.crowd(1, 0, 1);
        x.ticks(7);
        due.is("answered in the tick of its deadline", x.count(5), 1);
        due.is("no fail", x.about(0, 12), 0);
        StormBench y = with(1, 0, 1);
        y.service(1, 0, 6);
        y.rule(0, 0, 5);
        y.crowd(1, 0, 1);
        y.ticks(7);
        due.is("a tick later is too late", y.about(0, 12), 1);
    }

    private static void deadlineAheadOfGuests() {
        due.by(8, "In 1 to 4 those are meant that were so when that step began and are so still.");
        // Job and guest have the deadline 6: the job's fail tells the guest, whose deadline is 7 then.
        StormBench x = with(1, 0, 1);
        x.service(1, 0, 9);
        x.rule(0, 0, 4);
        x.guests(0, 5);
        x.crowd(1, 0, 1);
        x.ticks(5);
        due.is("the guest's", x.guest(0, 2), 6);
        due.is("the job's", x.job(0, 5), 6);
        x.ticks(1);
        due.is("not lost yet", x.count(6), 0);
        due.is("the guest's", x.guest(0, 2), 7);
        x.ticks(1);
        due.is("lost", x.count(6), 1);
    }

    private static void servedAheadOfItsDeadline() {
        due.by(8, "4 GUESTS whose DEADLINE is TICK");
        StormBench x = with(1, 0, 5);
        x.guests(0, 5);
        x.crowd(1, 0, 1);
        x.ticks(6);
        due.is("served in the tick of its deadline", x.count(5), 1);
        due.is("not lost", x.count(6), 0);
        StormBench y = with(1, 0, 6);
        y.guests(0, 5);
        y.crowd(1, 0, 1);
        y.ticks(6);
        due.is("a tick later is too late", y.count(6), 1);
        y.ticks(1);
        due.is("its job was for nobody", y.count(8), 1);
    }

    private static void guestsInTheirOrder() {
        due.by(8, "4 GUESTS whose DEADLINE is TICK, in the order in which they came");
        StormBench x = with(1, 2, 9);
        x.guests(0, 3);
        x.guests(1, 1);
        x.crowd(1, 0, 2);
        x.ticks(4);
        due.is("the first one has the last place of the row", x.guest(0, 1), 2);
        due.is("the second one none", x.guest(1, 1), -3);
        due.is("both asked again", x.count(7), 2);
    }

    private static void guestsAheadOfTheRow() {
        due.by(8, "as long as a HAND is free and someone WAITS: the first one WORKS");
        // By tick 4 the hand is free (step 1), guest 1 asks again behind its own given up job (4); that works then (5).
        StormBench x = with(1, 2, 3);
        x.crowd(1, 0, 1);
        x.ticks(1);
        x.guests(0, 2);
        x.guests(1, 1);
        x.crowd(2, 0, 1);
        x.ticks(3);
        due.is("guest 0 is served", x.count(5), 1);
        due.is("job 1 works", x.job(0, 0) * 10 + x.job(0, 3), 11);
        due.is("for nobody", x.job(0, 4), -3);
        due.is("job 2 waits", x.row(0, 0), 2);
    }

    private static void rowAheadOfNewGuests() {
        due.by(8, "6 New GUESTS: those told for this TICK, in the order told");
        StormBench x = with(1, 1, 3);
        x.crowd(1, 0, 2);
        x.crowd(4, 0, 1);
        x.ticks(4);
        due.is("the one of the row works", x.job(0, 0) * 10 + x.job(0, 3), 11);
        due.is("the new one waits", x.row(0, 0), 2);
        due.is("none is refused", x.about(0, 10), 0);
    }

    private static void toldAheadOfUsual() {
        due.by(8, "then those of the USUAL CROWD.");
        StormBench x = with(1, 1, 9);
        x.usual(1);
        x.place(0, 6, 1);
        x.crowd(1, 4, 1);
        x.crowd(1, 5, 1);
        x.ticks(1);
        due.is("the first told works", x.job(0, 2), 4);
        due.is("the second told waits", x.job(1, 2), 5);
        due.is("the usual one is refused", x.guest(2, 0) * 10 - x.guest(2, 1), 63);
    }

    private static void goneByThen() {
        due.by(8, "(What is gone by then is passed over.");
        // By tick 5 job 4 asks (step 1) and pushes job 3 out: job 1 fails by that, not once more by its deadline (3).
        for (int again = 0; again <= 1; again++) {
            StormBench x = with(3, 0, 1);
            x.service(1, 1, 9);
            x.rule(0, 0, 3);
            x.rule(0, 1, again);
            x.rule(1, 6, 1);
            x.crowd(1, 0, 2);
            x.crowd(4, 0, 1);
            x.ticks(4);
            due.is("job 1 asks till 5", x.job(1, 5), 5);
            x.ticks(1);
            due.is("jobs 0 and 1 fail once", x.about(0, 12), 2);
            due.is("over or pausing", again == 0 ? x.about(0, 9) : x.about(0, 3), 2);
        }
    }

    private static void pushedGuestIsPassedOver() {
        due.by(8, "In 1 to 4 those are meant that were so when that step began and are so still.");
        // Both guests have the deadline 4; the first one asks again and pushes the second one's job out.
        StormBench x = with(1, 1, 9);
        x.rule(0, 6, 1);
        x.guests(0, 3);
        x.guests(1, 1);
        x.crowd(1, 0, 2);
        x.ticks(4);
        due.is("the second one has not asked again", x.count(7), 1);
        due.is("its deadline is the next tick", x.guest(1, 2), 5);
        due.is("it has no job", x.guest(1, 1), -3);
        x.ticks(1);
        due.is("then it asks again", x.count(7), 2);
        due.is("and pushes out the first one's", x.guest(0, 1), -3);
    }

    private static void callerGivesUpFirst() {
        due.by(8, "It FAILS also by its DEADLINE (it gives the other JOB up).");
        // Jobs 0 and 1 have the deadline 6: job 0 gives job 1 up, so that job 1, which fails too, is for nobody.
        StormBench x = with(1, 0, 1);
        x.service(1, 0, 1);
        x.service(1, 0, 9);
        x.rule(0, 0, 4);
        x.rule(1, 0, 3);
        x.rule(0, 1, 1);
        x.crowd(1, 0, 1);
        x.ticks(6);
        due.is("one fail each", x.about(0, 12) * 10 + x.about(1, 12), 11);
        due.is("job 1 was for nobody", x.about(1, 11), 1);
        due.is("job 0 pauses", x.job(0, 3), 3);
    }

    // ---- guests

    private static void patienceOne() {
        due.by(4, "PATIENCE (1 .. 60; 20 at first)");
        StormBench x = with(1, 0, 1);
        x.guests(0, 1);
        x.crowd(1, 0, 1);
        x.ticks(1);
        due.is("the next tick", x.guest(0, 2), 2);
        x.ticks(1);
        due.is("work of one tick is answered by then", x.count(5), 1);
        StormBench y = with(1, 0, 2);
        y.guests(0, 1);
        y.crowd(1, 0, 1);
        y.ticks(2);
        due.is("work of two is not", y.count(6), 1);
    }

    private static void patienceSixty() {
        due.by(4, "PATIENCE (1 .. 60; 20 at first)");
        // One behind the other: the sixth is served by 55, the seventh would be by 64.
        StormBench x = with(1, 20, 9);
        x.guests(0, 60);
        x.crowd(1, 0, 7);
        x.ticks(60);
        due.is("the seventh is there", x.count(3), 1);
        due.is("till 1 and 60", x.guest(0, 2), 61);
        x.ticks(1);
        due.is("lost", x.count(6), 1);
        StormBench y = with(1, 20, 6);
        y.guests(0, 60);
        y.crowd(1, 0, 10);
        y.ticks(61);
        due.is("the tenth is served by 61", y.count(5), 10);
    }

    private static void againNone() {
        due.by(4, "GUESTS' AGAIN: 0 .. 3, 0 at first.");
        StormBench x = with(9, 0, 9);
        x.guests(0, 1);
        x.crowd(1, 0, 1);
        x.ticks(2);
        due.is("none asked again", x.count(7), 0);
        due.is("lost", x.count(6), 1);
        due.is("gone", x.count(3), 0);
    }

    private static void againThree() {
        due.by(4, "if they asked fewer times again than GUESTS' AGAIN; else they are LOST.");
        StormBench x = with(9, 0, 9);
        x.guests(0, 1);
        x.guests(1, 3);
        x.crowd(1, 0, 1);
        for (int t = 1; t <= 4; t++) {
            x.ticks(1);
            due.is("asked again", x.guest(0, 3), t - 1);
            due.is("by a job of its own", x.guest(0, 1), t - 1);
            due.is("anew", x.guest(0, 2), t + 1);
        }
        due.is("three times", x.count(7), 3);
        x.ticks(1);
        due.is("lost", x.count(6), 1);
        due.is("three times", x.count(7), 3);
        for (int i = 0; i < 4; i++) due.is("nobody asks by it", x.job(i, 4), -3);
    }

    private static void againBecomesLess() {
        due.by(4, "if they asked fewer times again than GUESTS' AGAIN; else they are LOST.");
        StormBench x = with(9, 0, 9);
        x.guests(0, 1);
        x.guests(1, 3);
        x.crowd(1, 0, 1);
        x.ticks(3);
        due.is("asked again twice", x.guest(0, 3), 2);
        x.guests(1, 1);
        x.ticks(1);
        due.is("lost", x.count(6), 1);
    }

    private static void badMakesDeadlineTheNextTick() {
        due.by(14, "BAD: it has no JOB then, and its DEADLINE becomes TICK and 1.");
        StormBench x = with(1, 0, 9);
        x.guests(0, 60);
        x.guests(1, 1);
        x.crowd(1, 0, 2);
        x.ticks(1);
        due.is("refused as it comes", x.guest(1, 2), 2);
        x.ticks(1);
        due.is("refused as it asks again", x.guest(1, 2) * 10 + x.guest(1, 3), 31);
        due.is("has no job", x.guest(1, 1), -3);
        x.ticks(1);
        due.is("lost", x.count(6), 1);
        due.is("the other one is there", x.guest(0, 2), 61);
    }

    private static void deadlineAnew() {
        due.by(14, "a DEADLINE, TICK and PATIENCE (1 .. 60; 20 at first), anew each time that it asks.");
        StormBench x = with(9, 0, 9);
        x.guests(1, 1);
        x.crowd(1, 0, 1);
        x.ticks(1);
        due.is("at first", x.guest(0, 2), 21);
        x.guests(0, 60);
        due.is("a rule itself moves none", x.guest(0, 2), 21);
        x.rule(0, 7, 1);
        x.ticks(9);
        due.is("served", x.count(5), 1);
        StormBench y = with(9, 0, 9);
        y.guests(0, 1);
        y.guests(1, 1);
        y.crowd(1, 0, 1);
        y.ticks(1);
        y.guests(0, 60);
        y.ticks(1);
        due.is("with the PATIENCE of then", y.guest(0, 2), 62);
    }

    private static void hitByAskingAgain() {
        due.by(15, "and ask once more (a JOB COMES to SERVICE 0)");
        StormBench x = with(1, 0, 2);
        x.rule(0, 3, 9);
        x.guests(0, 2);
        x.guests(1, 3);
        x.crowd(1, 0, 2);
        x.ticks(2);
        due.is("refused twice", x.about(0, 10), 2);
        x.ticks(1);
        due.is("by 3 the answer is kept, and is a hit", x.about(0, 6), 1);
        due.is("both served", x.count(5), 2);
        due.is("it asked again twice", x.count(7), 2);
        due.is("that tick was not still", x.count(11), 0);
    }

    private static void newGuestHasNotAskedAgain() {
        due.by(14, "3 how often it asked again");
        StormBench x = with(1, 0, 9);
        x.guests(0, 1);
        x.guests(1, 1);
        x.crowd(1, 0, 1);
        x.crowd(4, 0, 1);
        x.ticks(4);
        due.is("the first one is lost", x.count(6), 1);
        due.is("the second one has not asked again", x.guest(0, 3), 0);
        x.ticks(1);
        due.is("but may", x.count(7), 2);
        x.ticks(1);
        due.is("once", x.count(6), 2);
    }

    /** One hand and a kept answer for key 7, at TICK 10. */
    private static StormBench oneKept() {
        StormBench x = with(1, 20, 9);
        x.rule(0, 3, 60);
        x.guests(0, 60);
        x.crowd(1, 7, 1);
        x.ticks(10);
        due.is("kept", x.kept(0, 7), 70);
        return x;
    }

    private static void tell(StormBench x, int tick, int many) {
        for (int left = many; left > 0; left -= 30) x.crowd(tick, 0, Math.min(30, left));
    }

    private static void hundredGuests() {
        due.by(14, "No more than 100 GUESTS are there at once: another one is LOST at once.");
        StormBench x = oneKept();
        tell(x, 11, 100);
        x.ticks(1);
        due.is("100 are there", x.count(3), 100);
        due.is("none is lost", x.count(6), 0);
        due.is("the last one", x.guest(99, 0), 0);
        due.is("there is no 101st", x.guest(100, 0), NONE);
        x.ticks(1);
        due.is("those refused are lost, and make place", x.count(3), 21);
    }

    private static void hundredAndOne() {
        due.by(14, "No more than 100 GUESTS are there at once: another one is LOST at once.");
        StormBench x = oneKept();
        tell(x, 11, 100);
        x.crowd(11, 7, 1);
        x.ticks(1);
        due.is("100 are there", x.count(3), 100);
        due.is("one is lost", x.count(6), 1);
        due.is("it came", x.count(4), 102);
        due.is("it asked nobody, not even for a hit", x.about(0, 6), 0);
        due.is("79 were refused, of 100", x.about(0, 10), 79);
    }

    private static void hitMakesPlace() {
        due.by(14, "No more than 100 GUESTS are there at once: another one is LOST at once.");
        StormBench x = oneKept();
        tell(x, 11, 99);
        x.crowd(11, 7, 2);
        x.ticks(1);
        due.is("each is the 100th, and gone at once", x.about(0, 6), 2);
        due.is("none is lost", x.count(6), 0);
        due.is("99 are there", x.count(3), 99);
    }

    private static void usualAmongHundred() {
        due.by(14, "No more than 100 GUESTS are there at once: another one is LOST at once.");
        StormBench x = oneKept();
        tell(x, 11, 98);
        x.usual(1);
        x.place(0, 3, 5);
        x.ticks(1);
        due.is("two of five", x.count(3), 100);
        due.is("three are lost", x.count(6), 3);
        due.is("the usual ones are the last", x.guest(97, 0) * 10 + x.guest(98, 0), 3);
    }

    // ---- told, and usual

    private static void thirtyTold() {
        due.by(5, "TOLD: n GUESTS (1 .. 30) of a KEY at a TICK to come");
        StormBench x = with(9, 20, 1);
        x.crowd(2, 7, 30);
        x.ticks(1);
        due.is("not ahead of its tick", x.count(4), 0);
        x.ticks(1);
        due.is("all by its tick", x.count(4), 30);
        x.ticks(5);
        due.is("none behind it", x.count(4), 30);
    }

    private static void toldForLater() {
        due.by(5, "those told for this TICK, in the order told");
        StormBench x = with(9, 20, 9);
        x.crowd(3, 1, 1);
        x.crowd(2, 2, 1);
        x.crowd(3, 3, 1);
        x.crowd(2, 4, 1);
        x.ticks(2);
        due.is("two are kept", x.count(9), 2);
        due.is("by 2", x.guest(0, 0) * 10 + x.guest(1, 0), 24);
        x.ticks(1);
        due.is("none is kept", x.count(9), 0);
        due.is("by 3", x.guest(2, 0) * 10 + x.guest(3, 0), 13);
    }

    private static void periodOne() {
        due.by(6, "in each TICK those of place TICK % PERIOD (none at first)");
        StormBench x = with(9, 20, 1);
        x.usual(1);
        x.place(0, 0, 5);
        for (int t = 1; t <= 5; t++) {
            x.ticks(1);
            due.is("each tick", x.count(4), 5 * t);
        }
    }

    private static void periodTwelve() {
        due.by(6, "in each TICK those of place TICK % PERIOD (none at first)");
        StormBench x = with(9, 20, 1);
        x.usual(12);
        x.place(0, 0, 1);
        x.place(11, 0, 3);
        x.ticks(10);
        due.is("place 0 is not that of tick 1", x.count(4), 0);
        x.ticks(1);
        due.is("place 11", x.count(4), 3);
        x.ticks(1);
        due.is("place 0 behind it", x.count(4), 4);
        x.ticks(11);
        due.is("place 11 by 23", x.count(4), 7);
        x.ticks(1);
        due.is("place 0 by 24", x.count(4), 8);
    }

    private static void periodFive() {
        due.by(7, "for each place of it how many GUESTS (0 .. 5) and of which KEY");
        StormBench x = with(9, 20, 9);
        x.usual(5);
        for (int i = 0; i < 5; i++) x.place(i, i, 1);
        x.ticks(6);
        int[] keys = {1, 2, 3, 4, 0, 1};
        for (int i = 0; i < 6; i++) due.is("guest " + i, x.guest(i, 0), keys[i]);
        x.place(2, 7, 2);
        x.ticks(1);
        due.is("a place told anew", x.guest(6, 0) * 10 + x.guest(7, 0), 77);
    }

    private static void periodInTheMiddle() {
        due.by(6, "in each TICK those of place TICK % PERIOD (none at first)");
        StormBench x = with(9, 20, 9);
        x.ticks(7);
        x.usual(3);
        x.place(2, 5, 1);
        x.ticks(1);
        due.is("tick 8 is place 2 of 3, not place 0", x.count(4), 1);
    }

    // ---- still

    private static void stillAheadOfAny() {
        due.by(15, "(1 ahead of any)");
        StormBench x = new StormBench();
        due.is("without a service", x.count(11), 1);
        x.service(1, 0, 1);
        due.is("ahead of any tick", x.count(11), 1);
        x.ticks(1);
        due.is("nothing", x.count(11), 1);
    }

    private static void stillWithLost() {
        due.by(15, "STILL is a house in a TICK in which no GUEST was LOST");
        StormBench x = with(1, 0, 9);
        x.guests(0, 3);
        x.crowd(1, 0, 1);
        x.ticks(3);
        due.is("not lost yet", x.count(11), 1);
        x.ticks(1);
        due.is("lost", x.count(11), 0);
        x.ticks(1);
        due.is("lost in the tick ahead", x.count(11), 1);
    }

    private static void stillWithAgain() {
        due.by(15, "no GUEST asked again");
        StormBench x = with(2, 0, 9);
        x.guests(0, 3);
        x.guests(1, 1);
        x.crowd(1, 0, 1);
        x.ticks(3);
        due.is("not again yet", x.count(11), 1);
        x.ticks(1);
        due.is("asked again", x.count(11), 0);
        due.is("none was lost or refused", x.count(6) + x.about(0, 10), 0);
    }

    private static void stillWithFail() {
        due.by(15, "no JOB FAILED and none was REFUSED");
        StormBench x = with(1, 0, 1);
        x.service(1, 0, 9);
        x.rule(0, 0, 3);
        x.rule(0, 1, 1);
        x.crowd(1, 0, 1);
        x.ticks(4);
        due.is("asks", x.count(11), 1);
        x.ticks(1);
        due.is("failed by its deadline, and pauses", x.count(11), 0);
        x.ticks(1);
        due.is("pauses", x.count(11), 1);
    }

    private static void stillWithRefused() {
        due.by(15, "no JOB FAILED and none was REFUSED");
        // The one pushed out by tick 2 is one that nobody asks by: nothing else is wrong in that tick but the lost one.
        StormBench x = with(1, 1, 9);
        x.rule(0, 6, 1);
        x.guests(0, 1);
        x.crowd(1, 0, 2);
        x.crowd(3, 0, 1);
        x.ticks(2);
        due.is("two lost", x.count(11), 0);
        x.guests(0, 60);
        x.ticks(1);
        due.is("pushed out, for nobody: refused", x.count(11), 0);
        x.ticks(1);
        due.is("nothing", x.count(11), 1);
    }

    private static void stillWithNobody() {
        due.by(15, "STILL is a house in a TICK in which no GUEST was LOST");
        StormBench x = with(1, 0, 3);
        x.guests(0, 1);
        x.crowd(1, 0, 1);
        x.ticks(4);
        due.is("over for nobody", x.count(8), 1);
        due.is("is no unrest", x.count(11), 1);
    }
}
