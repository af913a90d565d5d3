/** How a job comes, works, asks, fails and is over, at the edges of each rule, of the room and of the 120 jobs. */
public final class EdgesOfJobsTest {
    private static final int NONE = Due.NONE, NEVER = Due.NEVER;
    private static final Due due = new Due();

    public static void main(String[] args) {
        lastServiceHasNoNext(); numbersFromZero(); newJobWaitsAnew(); newJobHasNotAskedAgain();
        hitAtTheLastTick(); hitInTheSameTick(); keepOne(); keepSixty(); keepNothing(); keptForEachKey();
        goodForNobodyIsKept();
        handFreeButOneWaits(); handFreeAndNobodyWaits();
        noRoom(); roomForOne(); roomForTwenty();
        oldestOfOne(); oldestAnswersUpTheRow(); oldestWithoutRoom(); oldestForNobody();
        mostJobs(); hitAmongMostJobs(); oldestAmongMostJobs(); oneOverMakesPlaceForOne();
        refusedIsNotOver();
        timeoutOne(); timeoutForty();
        againZero(); againFour(); pauseZero();
        sickNever(); sickOne(); sickNine(); sickOrMore(); goodAnswerEndsTheRow(); restOne(); restSixty();
        restsInItsOwnTick();
        due.end();
    }

    private static StormBench with(int hands, int room, int work) {
        StormBench x = new StormBench();
        x.service(hands, room, work);
        return x;
    }

    /** Nine hands that ask one hand, which is busy for nine ticks: all but the first of them fail. */
    private static StormBench nineAskOne() {
        StormBench x = with(9, 0, 1);
        x.service(1, 0, 9);
        x.rule(0, 0, 40);
        return x;
    }

    private static void lastServiceHasNoNext() {
        due.by(9, "a NEXT (the SERVICE made behind it, or none)");
        StormBench x = with(1, 0, 1);
        x.crowd(1, 0, 1);
        x.ticks(2);
        due.is("alone: over and good behind its work", x.about(0, 8), 1);
        StormBench y = new StormBench();
        for (int i = 0; i < 6; i++) y.service(1, 0, 1);
        y.crowd(1, 0, 1);
        y.ticks(6);
        for (int i = 0; i < 5; i++) due.is("of six, all but the last one ask", y.about(i, 2), 1);
        due.is("the last one works", y.about(5, 1), 1);
        y.ticks(1);
        for (int i = 0; i < 6; i++) due.is("answered up the whole row in one tick", y.about(i, 8), 1);
        due.is("served", y.count(5), 1);
        due.is("no job is left", y.count(2), 0);
    }

    private static void numbersFromZero() {
        due.by(12, "JOBS are numbered from 0 on, as they come.");
        StormBench x = with(1, 1, 9);
        x.crowd(1, 0, 3);
        x.ticks(1);
        due.is("the first", x.job(0, 0), 0);
        due.is("the second", x.job(1, 0), 1);
        due.is("what was refused has none", x.count(10), 2);
    }

    private static void newJobWaitsAnew() {
        due.by(12, "5 the TICK till which it WORKS, ASKS, PAUSES (-4: it WAITS)");
        // Job 0 pauses from 3 to 13, job 1 is over by 5: job 2 waits where nothing is left of job 1.
        StormBench x = with(1, 2, 1);
        x.service(1, 0, 3);
        x.rule(0, 0, 1);
        x.rule(0, 1, 4);
        x.rule(0, 2, 9);
        x.crowd(1, 3, 1);
        x.crowd(6, 4, 1);
        x.ticks(6);
        int[] all = {2, 0, 4, 0, -4, -4, 0};
        for (int what = 0; what <= 6; what++) due.is("job(1, " + what + ")", x.job(1, what), all[what]);
        due.is("it waits", x.about(0, 0), 1);
        due.is("in the row", x.row(0, 0), 2);
    }

    private static void newJobHasNotAskedAgain() {
        due.by(12, "6 how often it asked again");
        // Job 0 asked again by 4 and is over by that; job 2 comes by 5 and has its one time yet.
        StormBench x = with(1, 0, 1);
        x.service(1, 0, 9);
        x.rule(0, 0, 1);
        x.rule(0, 1, 1);
        x.rule(0, 2, 0);
        x.crowd(1, 0, 1);
        x.crowd(5, 0, 1);
        x.ticks(4);
        due.is("over, bad", x.about(0, 9), 1);
        x.ticks(2);
        due.is("job 2 pauses", x.job(1, 0) * 10 + x.job(1, 3), 23);
        due.is("it has not asked again", x.job(1, 6), 0);
        x.ticks(1);
        due.is("it has, and is over", x.about(0, 9), 2);
    }

    // ---- what is kept

    private static void hitAtTheLastTick() {
        due.by(11, "TICK is not beyond the TICK till which it is KEPT");
        StormBench x = with(1, 0, 1);
        x.rule(0, 3, 4);
        x.crowd(1, 5, 1);
        x.crowd(6, 5, 1);
        x.crowd(7, 5, 1);
        x.ticks(2);
        due.is("kept till 2 and 4", x.kept(0, 5), 6);
        x.ticks(4);
        due.is("at the last tick it is kept", x.kept(0, 5), 6);
        due.is("a hit by it", x.about(0, 6), 1);
        due.is("no job", x.count(10), 1);
        due.is("served at once", x.count(5), 2);
        x.ticks(1);
        due.is("beyond it none is", x.kept(0, 5), NEVER);
        due.is("no hit", x.about(0, 6), 1);
        due.is("but a job", x.count(10), 2);
    }

    private static void hitInTheSameTick() {
        due.by(11, "the answer for its KEY is KEPT till TICK and KEEP.");
        StormBench x = with(1, 0, 1);
        x.rule(0, 3, 1);
        x.crowd(1, 5, 1);
        x.crowd(2, 5, 1);
        x.ticks(2);
        due.is("one that comes in the tick of the answer", x.about(0, 6), 1);
        due.is("both served", x.count(5), 2);
    }

    private static void keepOne() {
        due.by(11, "KEEP (0 .. 60 ticks; 0 at first: it keeps nothing)");
        StormBench x = with(1, 0, 1);
        x.rule(0, 3, 1);
        x.crowd(1, 5, 1);
        x.crowd(3, 5, 1);
        x.crowd(4, 5, 1);
        x.ticks(2);
        due.is("kept till 2 and 1", x.kept(0, 5), 3);
        x.ticks(2);
        due.is("one hit by 3, none by 4", x.about(0, 6), 1);
    }

    private static void keepSixty() {
        due.by(11, "KEEP (0 .. 60 ticks; 0 at first: it keeps nothing)");
        StormBench x = with(1, 0, 1);
        x.rule(0, 3, 60);
        x.crowd(1, 5, 1);
        x.crowd(62, 5, 1);
        x.crowd(63, 5, 1);
        x.ticks(62);
        due.is("kept till 2 and 60", x.kept(0, 5), 62);
        due.is("a hit by 62", x.about(0, 6), 1);
        x.ticks(1);
        due.is("none by 63", x.about(0, 6), 1);
        due.is("none is any more", x.kept(0, 5), NEVER);
    }

    private static void keepNothing() {
        due.by(11, "If it is GOOD and KEEP of its SERVICE is not 0");
        StormBench x = with(1, 0, 1);
        x.crowd(1, 5, 1);
        x.crowd(2, 5, 1);
        x.ticks(2);
        due.is("KEEP is 0: nothing is kept, not in the tick itself", x.kept(0, 5), NEVER);
        due.is("no hit", x.about(0, 6), 0);
        StormBench y = nineAskOne();
        y.rule(0, 3, 60);
        y.rule(1, 3, 60);
        y.crowd(1, 5, 2);
        y.ticks(2);
        due.is("a bad answer is not kept", y.about(0, 9), 1);
        due.is("a bad answer is not kept", y.kept(0, 5), NEVER);
        y.ticks(9);
        due.is("the good one is, by who gave it", y.kept(1, 5), 71);
        due.is("and by who was given it", y.kept(0, 5), 71);
    }

    private static void keptForEachKey() {
        due.by(11, "a KEY (0 .. 7)");
        StormBench x = with(2, 0, 1);
        x.rule(0, 3, 9);
        x.crowd(1, 0, 1);
        x.crowd(2, 7, 1);
        x.ticks(3);
        due.is("the least", x.kept(0, 0), 11);
        due.is("the most", x.kept(0, 7), 12);
        for (int key = 1; key <= 6; key++) due.is("no other", x.kept(0, key), NEVER);
    }

    private static void goodForNobodyIsKept() {
        due.by(11, "else it was for NOBODY. If it is GOOD and KEEP of its SERVICE is not 0");
        StormBench x = with(1, 0, 5);
        x.rule(0, 3, 7);
        x.guests(0, 1);
        x.crowd(1, 5, 1);
        x.ticks(6);
        due.is("for nobody", x.about(0, 11), 1);
        due.is("kept all the same", x.kept(0, 5), 13);
    }

    // ---- how a job comes

    private static void handFreeButOneWaits() {
        due.by(9, "Else, if a HAND is free and nobody WAITS there");
        // Hands become more between two ticks: in step 4 of the next one eight are free, and two wait.
        StormBench x = with(1, 2, 9);
        x.guests(0, 1);
        x.guests(1, 1);
        x.crowd(1, 0, 3);
        x.ticks(1);
        due.is("two wait", x.about(0, 0), 2);
        x.rule(0, 7, 9);
        x.ticks(1);
        due.is("all three asked again, and found a full row", x.about(0, 10), 3);
        due.is("no new number", x.count(10), 3);
        due.is("the two work by the end of the tick", x.about(0, 1), 3);
        StormBench y = with(1, 3, 9);
        y.guests(0, 1);
        y.guests(1, 1);
        y.crowd(1, 0, 3);
        y.ticks(1);
        y.rule(0, 7, 3);
        y.ticks(1);
        due.is("with room for one more that one waits, behind the two", y.row(0, 0), 3);
        due.is("the other two are refused", y.about(0, 10), 2);
    }

    private static void handFreeAndNobodyWaits() {
        due.by(9, "Else, if a HAND is free and nobody WAITS there: it WORKS, till TICK and WORK.");
        StormBench x = with(9, 20, 9);
        x.crowd(1, 0, 10);
        x.ticks(1);
        due.is("nine hands", x.about(0, 1), 9);
        due.is("the ninth works", x.job(8, 5), 10);
        due.is("the tenth waits", x.row(0, 0), 9);
        due.is("nobody is refused", x.about(0, 10), 0);
    }

    private static void noRoom() {
        due.by(9, "Else, if fewer than ROOM WAIT: it WAITS, the last one.");
        StormBench x = with(1, 0, 9);
        x.crowd(1, 0, 2);
        x.ticks(1);
        due.is("with no room nobody waits", x.about(0, 0), 0);
        due.is("refused", x.about(0, 10), 1);
    }

    private static void roomForOne() {
        due.by(9, "Else, if fewer than ROOM WAIT: it WAITS, the last one.");
        StormBench x = with(1, 1, 9);
        x.crowd(1, 0, 3);
        x.ticks(1);
        due.is("one waits", x.about(0, 0), 1);
        due.is("refused", x.about(0, 10), 1);
        due.is("its guest has no job", x.guest(2, 1), -3);
        due.is("and a deadline of the next tick", x.guest(2, 2), 2);
    }

    private static void roomForTwenty() {
        due.by(9, "Else, if fewer than ROOM WAIT: it WAITS, the last one.");
        StormBench x = with(1, 20, 9);
        x.crowd(1, 0, 21);
        x.ticks(1);
        due.is("twenty wait", x.about(0, 0), 20);
        due.is("none is refused", x.about(0, 10), 0);
        x.crowd(2, 0, 1);
        x.ticks(1);
        due.is("a 21st is", x.about(0, 10), 1);
        due.is("the last one", x.row(0, 19), 20);
    }

    private static void oldestOfOne() {
        due.by(9, "this one WAITS, the last one, and then the first one is REFUSED");
        StormBench x = with(1, 1, 9);
        x.rule(0, 6, 1);
        x.crowd(1, 0, 2);
        x.ticks(1);
        due.is("a row that is not full yet pushes none", x.about(0, 10), 0);
        x.crowd(2, 0, 30);
        x.ticks(1);
        due.is("each pushes the one ahead", x.about(0, 10), 30);
        due.is("the last one waits", x.row(0, 0), 31);
        due.is("all have numbers", x.count(10), 32);
        due.is("two are there", x.count(2), 2);
        due.is("the last guest has it", x.guest(31, 1), 31);
        due.is("the one ahead has none", x.guest(30, 1), -3);
    }

    private static void oldestAnswersUpTheRow() {
        due.by(9, "(gone; its CALLER, if it still asks by it, is answered BAD)");
        // Jobs 0, 1, 2 ask by tick 2: job 3 works, job 4 waits, job 5 pushes it out.
        StormBench x = with(3, 0, 1);
        x.service(1, 1, 9);
        x.rule(1, 6, 1);
        x.crowd(1, 0, 3);
        x.ticks(2);
        due.is("job 5 waits", x.row(1, 0), 5);
        due.is("one is refused", x.about(1, 10), 1);
        due.is("job 1 fails", x.about(0, 12), 1);
        due.is("and is over", x.about(0, 9), 1);
        due.is("its guest has no job", x.guest(1, 1), -3);
        due.is("its guest's deadline", x.guest(1, 2), 3);
        due.is("the others ask", x.about(0, 2), 2);
    }

    private static void oldestWithoutRoom() {
        due.by(9, "with OLDEST, and ROOM not 0");
        StormBench x = with(1, 0, 9);
        x.rule(0, 6, 1);
        x.crowd(1, 0, 2);
        x.ticks(1);
        due.is("this one is refused", x.about(0, 10), 1);
        due.is("the first goes on", x.job(0, 0), 0);
        due.is("no number", x.count(10), 1);
        due.is("the second guest has no job", x.guest(1, 1), -3);
    }

    private static void oldestForNobody() {
        due.by(9, "(gone; its CALLER, if it still asks by it, is answered BAD)");
        StormBench x = with(1, 1, 9);
        x.rule(0, 6, 1);
        x.guests(0, 1);
        x.crowd(1, 0, 2);
        x.crowd(2, 0, 1);
        x.ticks(2);
        due.is("two lost by 2, then a third came", x.count(6), 2);
        due.is("it pushed out what nobody asked by", x.row(0, 0), 2);
        due.is("refused", x.about(0, 10), 1);
        due.is("not over, so not for nobody", x.count(8), 0);
    }

    private static void refusedIsNotOver() {
        due.by(9, "What is REFUSED at once, and a HIT, has no number; what is REFUSED is not OVER.");
        StormBench x = with(1, 0, 3);
        x.rule(0, 3, 60);
        x.crowd(1, 0, 5);
        x.crowd(4, 0, 2);
        x.ticks(3);
        due.is("four were refused", x.about(0, 10), 4);
        due.is("not over, bad", x.about(0, 9), 0);
        due.is("not for nobody", x.about(0, 11), 0);
        x.ticks(1);
        due.is("two hits", x.about(0, 6), 2);
        due.is("one number", x.count(10), 1);
        due.is("a hit is not over, good", x.about(0, 8), 1);
        due.is("nor came to work", x.about(0, 7), 1);
        due.is("three served", x.count(5), 3);
    }

    // ---- 120 jobs

    /**
     * 120 jobs at TICK 68, of which none is due before TICK 75: rows full of what is given up, and jobs that pause for
     * long. Service 0 has nine free hands and an empty row, and an answer for key 7 till TICK 82.
     */
    private static StormBench mostJobsThere() {
        StormBench x = with(9, 1, 1);
        for (int i = 1; i < 6; i++) x.service(9, 20, i + 1);
        for (int i = 0; i < 6; i++) x.rule(i, 0, 40);
        x.rule(0, 3, 60);
        x.guests(0, 60);
        x.crowd(1, 7, 1);
        x.ticks(22);
        x.rule(0, 3, 0);
        for (int i = 0; i < 6; i++) x.rule(i, 0, 1);
        x.guests(0, 1);
        x.usual(1);
        x.place(0, 0, 5);
        x.ticks(30);
        for (int i = 1; i < 6; i++) {
            x.rule(i, 1, 4);
            x.rule(i, 2, 9);
            x.rule(i, 7, 1);
            x.rule(i, 8, 9);
        }
        x.ticks(15);
        x.place(0, 0, 0);
        x.ticks(1);
        due.is("TICK", x.count(1), 68);
        due.is("120 are there", x.count(2), 120);
        due.is("none at service 0", x.about(0, 0) + x.about(0, 1) + x.about(0, 2) + x.about(0, 3), 0);
        due.is("an answer is kept", x.kept(0, 7), 82);
        return x;
    }

    private static void mostJobs() {
        due.by(15, "No more than 120 JOBS are there at once: another one is REFUSED at once");
        StormBench x = mostJobsThere();
        int refused = x.about(0, 10);
        int numbers = x.count(10);
        x.crowd(69, 3, 1);
        x.ticks(1);
        due.is("a hand was free, nobody waited", x.about(0, 10), refused + 1);
        due.is("it has no number", x.count(10), numbers);
        due.is("its guest has no job", x.guest(0, 1), -3);
        due.is("120 as before", x.count(2), 120);
        due.is("the last of them", x.job(119, 6) >= 0 ? 1 : 0, 1);
        due.is("there is no 121st", x.job(120, 0), NONE);
        due.is("not still", x.count(11), 0);
    }

    private static void hitAmongMostJobs() {
        due.by(15, "another one is REFUSED at once, ahead of all but a HIT");
        StormBench x = mostJobsThere();
        int hits = x.about(0, 6);
        int served = x.count(5);
        int refused = x.about(0, 10);
        x.crowd(69, 7, 1);
        x.ticks(1);
        due.is("a hit", x.about(0, 6), hits + 1);
        due.is("served", x.count(5), served + 1);
        due.is("none is refused", x.about(0, 10), refused);
    }

    private static void oldestAmongMostJobs() {
        due.by(15, "another one is REFUSED at once, ahead of all but a HIT");
        // Two of service 5 are over by TICK 70: one guest's job works, one waits, and a third would push that one out.
        StormBench x = mostJobsThere();
        x.rule(0, 6, 1);
        x.rule(0, 7, 1);
        x.rule(5, 7, 3);
        x.rule(5, 8, 1);
        int refused = x.about(0, 10);
        int numbers = x.count(10);
        x.crowd(70, 3, 3);
        x.ticks(2);
        due.is("120 again", x.count(2), 120);
        due.is("two new numbers", x.count(10), numbers + 2);
        due.is("the second one waits on", x.row(0, 0), numbers + 1);
        due.is("its guest has it", x.guest(1, 1), numbers + 1);
        due.is("the third is refused", x.guest(2, 1), -3);
        due.is("one is refused", x.about(0, 10), refused + 1);
    }

    private static void oneOverMakesPlaceForOne() {
        due.by(15, "No more than 120 JOBS are there at once");
        StormBench x = mostJobsThere();
        int refused = x.about(0, 10);
        int numbers = x.count(10);
        x.ticks(6);
        due.is("120 stay for long", x.count(2), 120);
        x.crowd(75, 3, 3);
        x.ticks(1);
        due.is("one of service 5 was over in this tick", x.count(2), 120);
        due.is("so one of three came", x.count(10), numbers + 1);
        due.is("and works", x.about(0, 1), 1);
        due.is("two were refused", x.about(0, 10), refused + 2);
    }

    // ---- asking, and asking again

    private static void timeoutOne() {
        due.by(3, "TIMEOUT (1 .. 40; 10 at first)");
        StormBench x = with(1, 0, 1);
        x.service(1, 0, 9);
        x.rule(0, 0, 1);
        x.crowd(1, 0, 1);
        x.ticks(2);
        due.is("asks till 2 and 1", x.job(0, 5), 3);
        x.ticks(1);
        due.is("fails by it", x.about(0, 12), 1);
        due.is("over, bad", x.about(0, 9), 1);
        due.is("gave the other one up", x.job(0, 4), -3);
    }

    /** Service 1 asks again for so long that service 0 waits its 40 ticks for it. */
    private static StormBench longAsked() {
        StormBench x = with(1, 0, 1);
        x.service(1, 0, 1);
        x.service(1, 0, 9);
        x.rule(0, 0, 40);
        x.rule(1, 0, 1);
        x.rule(1, 1, 4);
        x.rule(1, 2, 9);
        x.guests(0, 60);
        x.crowd(1, 0, 1);
        return x;
    }

    private static void timeoutForty() {
        due.by(3, "TIMEOUT (1 .. 40; 10 at first)");
        StormBench x = longAsked();
        x.ticks(2);
        due.is("asks till 2 and 40", x.job(0, 5), 42);
        x.ticks(39);
        due.is("not yet", x.about(0, 12), 0);
        x.ticks(1);
        due.is("fails by 42", x.about(0, 12), 1);
    }

    private static void againZero() {
        due.by(3, "AGAIN (0 .. 4; 0 at first)");
        StormBench x = nineAskOne();
        x.crowd(1, 0, 2);
        x.ticks(2);
        due.is("one fails", x.about(0, 12), 1);
        due.is("and does not pause", x.about(0, 3), 0);
        due.is("but is over", x.about(0, 9), 1);
    }

    private static void againFour() {
        due.by(3, "PAUSE times 2 to the power of how often it asked again till now; else it is OVER, BAD.");
        // Fails by 4, 15, 35, 73 and 147; pauses of 1 and 9 times 1, 2, 4 and 8 between.
        StormBench x = longAsked();
        int[] fails = {4, 15, 35, 73};
        int[] till = {14, 34, 72, 146};
        for (int i = 0; i < 4; i++) {
            x.ticks(fails[i] - x.count(1));
            int job = x.job(0, 1) == 1 ? 0 : 1;
            due.is("pauses", x.job(job, 3), 3);
            due.is("till", x.job(job, 5), till[i]);
            due.is("asked again", x.job(job, 6), i);
        }
        x.ticks(146 - 73);
        due.is("asks for the fourth time again", x.job(0, 3) * 10 + x.job(0, 6), 24);
        x.ticks(1);
        due.is("five fails", x.about(1, 12), 5);
        due.is("over, bad", x.about(1, 9), 1);
        due.is("for nobody by then", x.about(1, 11), 1);
    }

    private static void pauseZero() {
        due.by(3, "it PAUSES till the TICK that is TICK, and 1, and PAUSE times 2");
        StormBench x = nineAskOne();
        x.rule(0, 1, 3);
        x.rule(0, 2, 0);
        x.crowd(1, 0, 2);
        for (int t = 2; t <= 4; t++) {
            x.ticks(t - x.count(1));
            due.is("pauses by the next tick", x.job(1, 5), t + 1);
            due.is("asked again", x.job(1, 6), t - 2);
        }
        x.ticks(1);
        due.is("the fourth fail is the last", x.about(0, 12) * 10 + x.about(0, 9), 41);
    }

    // ---- sick ones, and rest

    private static void sickNever() {
        due.by(3, "SICK (0 .. 9; 0 at first: never)");
        StormBench x = nineAskOne();
        x.crowd(1, 0, 9);
        x.crowd(2, 0, 8);
        x.ticks(3);
        due.is("sixteen fails", x.about(0, 12), 16);
        due.is("all in a row", x.about(0, 5), 16);
        due.is("no rest", x.about(0, 4), -1);
    }

    private static void sickOne() {
        due.by(3, "if SICK is not 0 and it is SICK or more by that: the SERVICE RESTS");
        StormBench x = nineAskOne();
        x.rule(0, 4, 1);
        x.crowd(1, 0, 2);
        x.ticks(2);
        due.is("the first fail is enough", x.about(0, 4), 12);
        due.is("and the ROW is 0", x.about(0, 5), 0);
    }

    /** Eight fails by tick 2 with SICK 9, and a ninth one by tick 3. */
    private static StormBench nineFails(int rest) {
        StormBench x = nineAskOne();
        x.rule(0, 4, 9);
        x.rule(0, 5, rest);
        x.crowd(1, 0, 9);
        x.crowd(2, 0, 1);
        x.ticks(2);
        due.is("eight are not nine", x.about(0, 4), -1);
        due.is("eight", x.about(0, 5), 8);
        x.ticks(1);
        due.is("the ninth is", x.about(0, 4), 3 + rest);
        due.is("and the ROW is 0", x.about(0, 5), 0);
        return x;
    }

    private static void sickNine() {
        due.by(3, "SICK (0 .. 9; 0 at first: never)");
        StormBench x = nineFails(10);
        due.is("fails in all", x.about(0, 12), 9);
    }

    private static void sickOrMore() {
        due.by(3, "if SICK is not 0 and it is SICK or more by that: the SERVICE RESTS");
        StormBench x = nineAskOne();
        x.crowd(1, 0, 6);
        x.crowd(2, 0, 1);
        x.ticks(2);
        due.is("five fails", x.about(0, 5), 5);
        x.rule(0, 4, 2);
        due.is("a rule itself makes none rest", x.about(0, 4), -1);
        x.ticks(1);
        due.is("a sixth one, and 2 or more: rests", x.about(0, 4), 13);
        due.is("and the ROW is 0", x.about(0, 5), 0);
    }

    private static void goodAnswerEndsTheRow() {
        due.by(9, "(a GOOD answer makes it 0)");
        StormBench x = nineAskOne();
        x.rule(0, 4, 9);
        x.crowd(1, 0, 9);
        x.crowd(10, 0, 2);
        x.ticks(10);
        due.is("eight", x.about(0, 5), 8);
        x.ticks(1);
        due.is("good by 11, then one of two fails", x.about(0, 5), 1);
        due.is("so no ninth in a row", x.about(0, 4), -1);
        due.is("nine in all", x.about(0, 12), 9);
    }

    private static void restOne() {
        due.by(9, "it asks nobody up to TICK and REST (that TICK too)");
        StormBench x = nineFails(1);
        x.crowd(4, 0, 1);
        x.ticks(1);
        due.is("by 4 it rests", x.about(0, 4), 4);
        x.ticks(1);
        due.is("by 5 it does not", x.about(0, 4), -1);
        due.is("so one more asked, and failed", x.about(0, 12), 10);
    }

    private static void restSixty() {
        due.by(9, "it asks nobody up to TICK and REST (that TICK too)");
        StormBench x = nineFails(60);
        x.crowd(62, 0, 1);
        x.crowd(63, 0, 1);
        x.ticks(60);
        due.is("by 63 it rests", x.about(0, 4), 63);
        due.is("that which worked till 63 is over, bad", x.about(0, 9), 10);
        due.is("without asking", x.about(1, 7), 1);
        due.is("and without a fail", x.about(0, 12), 9);
        x.ticks(1);
        due.is("by 64 it does not", x.about(0, 4), -1);
        due.is("that which worked till 64 asks", x.about(0, 2), 1);
    }

    private static void restsInItsOwnTick() {
        due.by(9, "if its SERVICE RESTS: it is OVER, BAD.");
        // By tick 2 job 0 asks, job 1 fails, and the service rests: jobs 2 to 8 ask nobody in the same tick.
        StormBench x = nineAskOne();
        x.rule(0, 4, 1);
        x.crowd(1, 0, 9);
        x.ticks(2);
        due.is("one fail", x.about(0, 12), 1);
        due.is("eight over, bad", x.about(0, 9), 8);
        due.is("one was refused", x.about(1, 10), 1);
        due.is("one asks on", x.about(0, 2), 1);
        x.ticks(9);
        due.is("and is answered, though its service rests", x.about(0, 8) * 100 + x.about(0, 4), 112);
    }
}
