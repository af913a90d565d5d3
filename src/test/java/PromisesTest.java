/** Each promise of the document by runs that were worked out by hand from its words. */
public final class PromisesTest {
    private static final int NONE = -1, FULL = -2, STATE = -3, NEVER = -4;
    private static int wrong = 0;
    private static int promise = 0;
    private static int row = 0;

    public static void main(String[] args) {
        promise = 1; aNewObject();
        promise = 2; service();
        promise = 3; rule(); ruleOfHandsAndWork(); ruleOfKeepAndRest();
        promise = 4; guests(); patienceAndAgain();
        promise = 5; crowd(); crowdInOrder();
        promise = 6; usual();
        promise = 7; place();
        promise = 8; ticks(); orderOfATick(); deadlinesOfATick(); twoDeadlinesOfOneTick();
        promise = 9; about(); sick(); oldest(); oldestOfAGuestsOwn();
        promise = 10; ruleOf();
        promise = 11; kept();
        promise = 12; job();
        promise = 13; row();
        promise = 14; guest(); mostGuests();
        promise = 15; count(); still();
        promise = 16; rest();
        promise = 17; bears();
        promise = 18; best();
        promise = 19; price();
        System.out.println(wrong == 0 ? "all answers are as due" : wrong + " answers are not as due");
        if (wrong != 0) System.exit(1);
    }

    private static void due(String what, int got, int want) {
        row++;
        if (got != want) {
            wrong++;
            System.out.println("promise " + promise + ", row " + row + ": " + what + " answered " + got + ", due is " + want);
        }
    }

    private static StormBench with(int hands, int room, int work) {
        StormBench x = new StormBench();
        due("service", x.service(hands, room, work), 0);
        return x;
    }

    private static void aNewObject() {
        StormBench x = new StormBench();
        for (int what = 0; what <= 10; what++) due("count(" + what + ")", x.count(what), 0);
        due("count(11)", x.count(11), 1);
        due("price", x.price(), 0);
        due("about", x.about(0, 0), NONE);
        due("ruleOf", x.ruleOf(0, 0), NONE);
        due("kept", x.kept(0, 0), NONE);
        due("job", x.job(0, 0), NONE);
        due("row", x.row(0, 0), NONE);
        due("guest", x.guest(0, 0), NONE);
        due("guests' patience", x.guests(0, 20), 20);
        due("guests' again", x.guests(1, 0), 0);
        due("two objects share nothing", new StormBench().service(1, 1, 1) + x.count(0), 0);
    }

    private static void service() {
        StormBench x = new StormBench();
        int[][] not = {{0, 0, 1}, {10, 0, 1}, {1, -1, 1}, {1, 21, 1}, {1, 0, 0}, {1, 0, 10},
            {Integer.MIN_VALUE, 0, 1}, {1, Integer.MAX_VALUE, 1}};
        for (int[] n : not) due("not as said", x.service(n[0], n[1], n[2]), NONE);
        due("nothing was made", x.count(0), 0);
        for (int i = 0; i < 6; i++) due("service", x.service(i == 0 ? 1 : 9, i == 0 ? 0 : 20, i == 0 ? 1 : 9), i);
        due("a seventh", x.service(1, 1, 1), FULL);
        due("NONE ahead of FULL", x.service(0, 1, 1), NONE);
        due("ticks", x.ticks(1), 1);
        due("FULL ahead of STATE", x.service(1, 1, 1), FULL);
        due("six", x.count(0), 6);
        StormBench y = with(1, 1, 1);
        due("ticks", y.ticks(1), 1);
        due("STATE", y.service(1, 1, 1), STATE);
        due("NONE ahead of STATE", y.service(1, 1, 0), NONE);
        due("one", y.count(0), 1);
    }

    private static void rule() {
        StormBench x = with(3, 4, 5);
        int[] first = {10, 0, 1, 0, 0, 10, 0, 3, 5};
        int[] least = {1, 0, 0, 0, 0, 1, 0, 1, 1};
        int[] most = {40, 4, 9, 60, 9, 60, 1, 9, 9};
        for (int what = 0; what < 9; what++) {
            due("below", x.rule(0, what, least[what] - 1), NONE);
            due("above", x.rule(0, what, most[what] + 1), NONE);
            due("least", x.rule(0, what, least[what]), first[what]);
            due("most", x.rule(0, what, most[what]), least[what]);
            due("as it is", x.ruleOf(0, what), most[what]);
        }
        due("no such rule", x.rule(0, -1, 1), NONE);
        due("ROOM is none", x.rule(0, 9, 1), NONE);
        due("no such service", x.rule(1, 0, 1), NONE);
        due("no such service", x.rule(-1, 0, 1), NONE);
    }

    private static void ruleOfHandsAndWork() {
        StormBench x = with(3, 5, 4);
        x.crowd(1, 0, 3);
        x.crowd(2, 0, 2);
        x.ticks(1);
        due("HANDS", x.rule(0, 7, 1), 3);
        x.ticks(1);
        due("with fewer than are in use none is free", x.about(0, 0), 2);
        due("WORK", x.rule(0, 8, 2), 4);
        due("one that began goes on", x.job(0, 5), 5);
        x.ticks(3);
        due("one hand", x.about(0, 1), 1);
        due("begins with the new WORK", x.job(0, 5), 7);
        due("the second of the row waits on", x.about(0, 0), 1);
    }

    private static void ruleOfKeepAndRest() {
        StormBench x = with(1, 0, 1);
        x.rule(0, 3, 5);
        x.crowd(1, 2, 1);
        x.ticks(2);
        due("kept till 2 and 5", x.kept(0, 2), 7);
        x.rule(0, 3, 0);
        due("what is kept is kept till its tick", x.kept(0, 2), 7);
        x.crowd(7, 2, 1);
        x.crowd(8, 2, 1);
        x.ticks(5);
        due("a hit at the last tick", x.about(0, 6), 1);
        x.ticks(1);
        due("none beyond it", x.about(0, 6), 1);
        due("but a job", x.count(2), 1);
        x.ticks(1);
        due("with KEEP 0 nothing new is kept", x.kept(0, 2), NEVER);
    }

    private static void guests() {
        StormBench x = new StormBench();
        due("PATIENCE", x.guests(0, 1), 20);
        due("PATIENCE", x.guests(0, 60), 1);
        due("below", x.guests(0, 0), NONE);
        due("above", x.guests(0, 61), NONE);
        due("as before", x.guests(0, 20), 60);
        due("AGAIN", x.guests(1, 3), 0);
        due("AGAIN", x.guests(1, 0), 3);
        due("below", x.guests(1, -1), NONE);
        due("above", x.guests(1, 4), NONE);
        due("no such rule", x.guests(2, 1), NONE);
        due("no such rule", x.guests(-1, 1), NONE);
    }

    private static void patienceAndAgain() {
        StormBench x = with(1, 3, 9);
        x.guests(0, 2);
        x.guests(1, 1);
        x.crowd(1, 4, 1);
        x.ticks(1);
        due("DEADLINE", x.guest(0, 2), 3);
        x.guests(0, 5);
        x.ticks(2);
        due("asked again", x.guest(0, 3), 1);
        due("by a new job", x.guest(0, 1), 1);
        due("anew, with the PATIENCE of now", x.guest(0, 2), 8);
        due("the first one is given up", x.job(0, 4), -3);
        x.ticks(5);
        due("LOST", x.count(6), 1);
        due("gone", x.count(3), 0);
        due("the second one is given up", x.job(1, 4), -3);
        x.ticks(20);
        due("both for NOBODY", x.count(8), 2);
    }

    private static void crowd() {
        StormBench x = new StormBench();
        due("now", x.crowd(0, 0, 1), NONE);
        due("long ago", x.crowd(-5, 0, 1), NONE);
        due("too late", x.crowd(100001, 0, 1), NONE);
        due("key", x.crowd(1, -1, 1), NONE);
        due("key", x.crowd(1, 8, 1), NONE);
        due("many", x.crowd(1, 0, 0), NONE);
        due("many", x.crowd(1, 0, 31), NONE);
        due("the last tick", x.crowd(100000, 7, 30), 1);
        for (int i = 2; i <= 40; i++) due("told", x.crowd(1 + i % 3, 0, 1), i);
        due("one more", x.crowd(1, 0, 1), FULL);
        due("NONE ahead of FULL", x.crowd(0, 0, 1), NONE);
        due("kept", x.count(9), 40);
        x.service(9, 20, 1);
        x.ticks(1);
        due("those of tick 1 are kept no more", x.count(9), 27);
        due("they came", x.count(4), 13);
        due("now", x.crowd(1, 0, 1), NONE);
        due("now's next one", x.crowd(2, 0, 1), 28);
    }

    private static void crowdInOrder() {
        StormBench x = with(9, 20, 9);
        x.usual(1);
        x.place(0, 7, 1);
        x.crowd(2, 3, 1);
        x.crowd(1, 5, 2);
        x.crowd(2, 1, 1);
        x.crowd(1, 4, 1);
        x.ticks(1);
        int[] first = {5, 5, 4, 7};
        for (int i = 0; i < 4; i++) due("in the order told, then the usual one", x.guest(i, 0), first[i]);
        x.ticks(1);
        int[] second = {3, 1, 7};
        for (int i = 0; i < 3; i++) due("in the order told, then the usual one", x.guest(4 + i, 0), second[i]);
        due("no more", x.count(3), 7);
    }

    private static void usual() {
        StormBench x = with(9, 20, 9);
        due("below", x.usual(0), NONE);
        due("above", x.usual(13), NONE);
        due("longest", x.usual(12), 1);
        due("its last place", x.place(11, 0, 1), 1);
        due("a new one", x.usual(12), 1);
        x.ticks(12);
        due("its places are without guests", x.count(4), 0);
        due("shortest", x.usual(1), 1);
        due("place", x.place(0, 3, 2), 1);
        due("refused", x.usual(-1), NONE);
        x.ticks(2);
        due("what is refused changes nothing", x.count(4), 4);
    }

    private static void place() {
        StormBench x = with(9, 20, 1);
        due("without a period", x.place(0, 0, 1), NONE);
        x.usual(3);
        due("below", x.place(-1, 0, 1), NONE);
        due("above", x.place(3, 0, 1), NONE);
        due("key", x.place(0, 8, 1), NONE);
        due("key", x.place(0, -1, 1), NONE);
        due("many", x.place(0, 0, 6), NONE);
        due("many", x.place(0, 0, -1), NONE);
        due("place 1", x.place(1, 6, 5), 1);
        due("place 0", x.place(0, 2, 1), 1);
        x.ticks(1);
        due("tick 1 is place 1", x.count(4), 5);
        due("of that key", x.guest(0, 0), 6);
        x.ticks(1);
        due("tick 2 is place 2", x.count(4), 5);
        x.ticks(1);
        due("tick 3 is place 0", x.count(4), 6);
        due("none any more", x.place(1, 6, 0), 1);
        x.ticks(1);
        due("tick 4 is place 1", x.count(4), 6);
    }

    private static void ticks() {
        StormBench x = new StormBench();
        due("NONE ahead of STATE", x.ticks(0), NONE);
        due("NONE ahead of STATE", x.ticks(501), NONE);
        due("STATE", x.ticks(1), STATE);
        x.service(1, 1, 1);
        due("below", x.ticks(-1), NONE);
        due("most", x.ticks(500), 500);
        for (int i = 2; i < 200; i++) due("ticks", x.ticks(500), 500 * i);
        due("ticks", x.ticks(499), 99999);
        due("beyond", x.ticks(2), NONE);
        due("far beyond", x.ticks(Integer.MAX_VALUE), NONE);
        due("to the last one", x.ticks(1), 100000);
        due("beyond", x.ticks(1), NONE);
        due("beyond", x.crowd(100001, 0, 1), NONE);
        due("would be still beyond", x.rest(24), 1);
    }

    private static void orderOfATick() {
        StormBench x = with(1, 2, 2);
        x.service(1, 0, 1);
        x.crowd(1, 0, 3);
        x.ticks(3);
        due("job 0 asks by tick 3", x.job(0, 3), 2);
        due("job 3 works for it at once", x.job(3, 5), 4);
        due("its caller", x.job(3, 4), 0);
        x.ticks(1);
        due("over, up to the guest", x.count(5), 1);
        due("the hand is free for the row by the same tick", x.job(0, 0), 1);
        due("which works", x.job(0, 3), 1);
        due("till then", x.job(0, 5), 6);
        x.crowd(6, 1, 1);
        x.ticks(2);
        due("row of one, a new guest behind it", x.row(0, 1), 5);
    }

    private static void deadlinesOfATick() {
        StormBench x = with(2, 0, 1);
        x.service(1, 0, 5);
        x.rule(0, 0, 5);
        x.rule(0, 1, 1);
        x.rule(0, 2, 3);
        x.crowd(1, 0, 1);
        x.ticks(7);
        due("an answer in the tick of the deadline comes first", x.count(5), 1);
        due("no fail", x.about(0, 12), 0);
        due("still", x.count(11), 1);
        StormBench y = with(2, 0, 1);
        y.service(1, 0, 6);
        y.rule(0, 0, 5);
        y.rule(0, 1, 2);
        y.rule(0, 2, 3);
        y.guests(0, 60);
        y.crowd(1, 0, 1);
        y.ticks(7);
        due("it fails", y.about(0, 12), 1);
        due("pauses till 7, 1 and 3", y.job(0, 5), 11);
        due("gave the other one up", y.job(1, 4), -3);
        y.ticks(1);
        due("for nobody", y.about(1, 11), 1);
        y.rule(1, 8, 9);
        y.ticks(3);
        due("asks again", y.job(0, 6), 1);
        due("till 11 and 5", y.job(0, 5), 16);
        y.ticks(5);
        due("pauses till 16, 1 and 3 times 2", y.job(0, 5), 23);
        y.rule(1, 8, 1);
        y.ticks(8);
        due("answered", y.count(5) + y.about(0, 8), 1 + 1);
    }

    private static void twoDeadlinesOfOneTick() {
        // The job of service 0 asks from 2 on, that of service 1 from 3 on: both fail by 6, the lower number first.
        StormBench x = with(1, 0, 1);
        x.service(1, 0, 1);
        x.service(1, 0, 9);
        x.rule(0, 0, 4);
        x.rule(1, 0, 3);
        x.crowd(1, 0, 1);
        x.ticks(6);
        due("fails of 0", x.about(0, 12), 1);
        due("fails of 1", x.about(1, 12), 1);
        due("that of 1 was given up by then", x.about(1, 11), 1);
        due("over and bad", x.about(0, 9) + x.about(1, 9), 2);
        due("the guest is told", x.guest(0, 2), 7);
        x.ticks(6);
        due("that of 2 was for nobody, too", x.count(8), 2);
        due("lost", x.count(6), 1);
    }

    private static void about() {
        StormBench x = with(1, 1, 2);
        x.crowd(1, 0, 3);
        x.ticks(1);
        due("WAIT", x.about(0, 0), 1);
        due("WORK", x.about(0, 1), 1);
        due("came to WORK", x.about(0, 7), 1);
        due("REFUSED", x.about(0, 10), 1);
        due("does not rest", x.about(0, 4), -1);
        x.ticks(2);
        due("came to WORK", x.about(0, 7), 2);
        due("OVER and GOOD", x.about(0, 8), 1);
        due("OVER and BAD", x.about(0, 9), 0);
        due("no such", x.about(0, 13), NONE);
        due("no such", x.about(0, -1), NONE);
        due("no such", x.about(1, 0), NONE);
        due("no such", x.about(-1, 0), NONE);
        due("no such", x.about(1, 4), NONE);
    }

    private static void sick() {
        StormBench x = with(3, 0, 1);
        x.service(1, 0, 3);
        x.rule(0, 4, 2);
        x.rule(0, 5, 4);
        x.crowd(1, 0, 2);
        x.crowd(4, 0, 1);
        x.crowd(5, 0, 2);
        x.crowd(10, 0, 1);
        x.crowd(11, 0, 1);
        x.ticks(2);
        due("one ASKS", x.about(0, 2), 1);
        due("one failed at once", x.about(0, 5), 1);
        x.ticks(3);
        due("a GOOD answer makes it 0", x.about(0, 5), 0);
        due("the third one asks by tick 5", x.about(0, 2), 1);
        x.ticks(1);
        due("two more fail by tick 6: it rests to 6 and 4", x.about(0, 4), 10);
        due("the row is 0 then", x.about(0, 5), 0);
        due("fails in all", x.about(0, 12), 3);
        x.ticks(2);
        due("that which asked is answered all the same", x.about(0, 8), 2);
        x.ticks(2);
        due("rests by its last tick, too", x.about(0, 4), 10);
        x.ticks(1);
        due("rests no more", x.about(0, 4), -1);
        due("what began by 10 asks by 11", x.about(0, 2), 1);
        due("none was refused its asking", x.about(0, 9), 3);
        x.rule(0, 5, 1);
        x.crowd(12, 0, 2);
        x.ticks(2);
        due("fails by 12 and 13: rests to 14", x.about(0, 4), 14);
        due("one was over without asking", x.about(0, 9) * 100 + x.about(0, 12), 605);
    }

    private static void oldest() {
        StormBench x = with(1, 2, 9);
        x.rule(0, 6, 1);
        x.crowd(1, 0, 3);
        x.crowd(2, 1, 1);
        x.ticks(2);
        due("the first of the row is gone", x.row(0, 0), 2);
        due("the new one is the last", x.row(0, 1), 3);
        due("REFUSED", x.about(0, 10), 1);
        due("its guest has no job", x.guest(1, 1), -3);
        due("and a new deadline", x.guest(1, 2), 3);
        due("it isn't OVER", x.about(0, 9), 0);
        x.ticks(1);
        due("LOST", x.count(6), 1);
        StormBench y = with(1, 0, 9);
        y.rule(0, 6, 1);
        y.crowd(1, 0, 2);
        y.ticks(1);
        due("without ROOM the new one is refused", y.guest(1, 1), -3);
        due("and has no number", y.count(10), 1);
    }

    private static void oldestOfAGuestsOwn() {
        StormBench x = with(1, 1, 9);
        x.rule(0, 6, 1);
        x.guests(0, 2);
        x.guests(1, 1);
        x.crowd(1, 0, 1);
        x.crowd(2, 1, 1);
        x.ticks(3);
        due("guest 0 asks again and pushes job 1 out", x.row(0, 0), 2);
        due("guest 1 is told by that", x.guest(1, 2), 4);
        x.ticks(1);
        due("guest 1 asks again and pushes job 2 out", x.row(0, 0), 3);
        due("guest 0 is told by that", x.guest(0, 2), 5);
        x.ticks(1);
        due("guest 0 is lost", x.count(6), 1);
        x.ticks(1);
        due("guest 1 is lost", x.count(6), 2);
        due("its job waits on", x.row(0, 0), 3);
        x.crowd(7, 2, 1);
        x.ticks(1);
        due("pushed out for nobody", x.row(0, 0), 4);
        due("which isn't a job for NOBODY", x.count(8), 0);
        due("refused", x.about(0, 10), 3);
    }

    private static void ruleOf() {
        StormBench x = with(2, 7, 3);
        int[] first = {10, 0, 1, 0, 0, 10, 0, 2, 3, 7};
        for (int what = 0; what < 10; what++) due("at first", x.ruleOf(0, what), first[what]);
        due("no such", x.ruleOf(0, 10), NONE);
        due("no such", x.ruleOf(0, -1), NONE);
        due("no such", x.ruleOf(1, 0), NONE);
        due("no such", x.ruleOf(-1, 0), NONE);
    }

    private static void kept() {
        StormBench x = with(2, 0, 1);
        x.service(2, 0, 1);
        x.rule(1, 3, 3);
        x.crowd(1, 5, 1);
        x.ticks(2);
        due("none", x.kept(1, 5), NEVER);
        x.ticks(1);
        due("kept till 3 and 3", x.kept(1, 5), 6);
        due("not for another key", x.kept(1, 4), NEVER);
        due("not by another service", x.kept(0, 5), NEVER);
        x.crowd(5, 5, 1);
        x.crowd(6, 5, 1);
        x.ticks(3);
        due("up to that tick", x.kept(1, 5), 6);
        due("a hit by tick 6", x.about(1, 6), 1);
        due("answers at once", x.count(5), 2);
        due("no hit makes a job", x.count(10), 4);
        x.ticks(1);
        due("none any more", x.kept(1, 5), NEVER);
        due("no hit by tick 7", x.about(1, 6), 1);
        due("key", x.kept(0, 8), NONE);
        due("key", x.kept(0, -1), NONE);
        due("no such", x.kept(2, 0), NONE);
        due("no such", x.kept(-1, 0), NONE);
    }

    private static void job() {
        StormBench x = with(2, 1, 1);
        x.service(1, 1, 4);
        x.rule(0, 1, 1);
        x.rule(0, 0, 3);
        x.crowd(1, 6, 3);
        x.ticks(2);
        int[][] all = {{0, 0, 6, 2, -4, 5, 0}, {1, 0, 6, 2, -4, 5, 0}, {2, 0, 6, 0, -4, -4, 0}, {3, 1, 6, 1, 0, 6, 0},
            {4, 1, 6, 0, 1, -4, 0}};
        for (int i = 0; i < 5; i++) {
            for (int what = 0; what < 7; what++) due("job " + i + ", " + what, x.job(i, what), all[i][what]);
        }
        x.ticks(3);
        due("PAUSES", x.job(0, 3), 3);
        due("till 5, 1 and 1", x.job(0, 5), 7);
        due("nobody asks by it", x.job(3, 4), -3);
        x.ticks(2);
        due("asked again", x.job(0, 6), 1);
        due("no such", x.job(0, 7), NONE);
        due("no such", x.job(0, -1), NONE);
        due("no such", x.job(-1, 0), NONE);
        due("no such", x.job(x.count(2), 0), NONE);
    }

    private static void row() {
        StormBench x = with(1, 3, 2);
        x.crowd(1, 0, 4);
        x.ticks(1);
        for (int i = 0; i < 3; i++) due("row", x.row(0, i), i + 1);
        due("behind it", x.row(0, 3), NONE);
        due("ahead of it", x.row(0, -1), NONE);
        due("no such", x.row(1, 0), NONE);
        due("no such", x.row(-1, 0), NONE);
        x.ticks(2);
        due("the first one works", x.row(0, 0), 2);
        due("two", x.row(0, 2), NONE);
    }

    private static void guest() {
        StormBench x = with(1, 1, 2);
        x.guests(0, 7);
        x.crowd(1, 3, 1);
        x.crowd(1, 4, 2);
        x.ticks(1);
        int[][] all = {{3, 0, 8, 0}, {4, 1, 8, 0}, {4, -3, 2, 0}};
        for (int i = 0; i < 3; i++) {
            for (int what = 0; what < 4; what++) due("guest " + i + ", " + what, x.guest(i, what), all[i][what]);
        }
        due("no such", x.guest(3, 0), NONE);
        due("no such", x.guest(-1, 0), NONE);
        due("no such", x.guest(0, 4), NONE);
        due("no such", x.guest(0, -1), NONE);
        x.ticks(2);
        due("served and lost ones are gone", x.guest(0, 0), 4);
        due("one is there", x.count(3), 1);
    }

    private static void mostGuests() {
        StormBench x = with(1, 20, 9);
        for (int i = 0; i < 4; i++) x.crowd(1, i, 30);
        x.ticks(1);
        due("100 there", x.count(3), 100);
        due("all came", x.count(4), 120);
        due("20 lost at once", x.count(6), 20);
        due("which asked nobody", x.about(0, 10), 79);
        due("not still", x.count(11), 0);
    }

    private static void count() {
        StormBench x = with(1, 1, 2);
        x.guests(0, 2);
        x.guests(1, 1);
        x.crowd(1, 0, 3);
        x.crowd(50, 0, 1);
        x.ticks(2);
        int[] all = {1, 2, 2, 3, 3, 0, 0, 1, 0, 1, 2, 0};
        for (int what = 0; what < 12; what++) due("count " + what, x.count(what), all[what]);
        x.ticks(1);
        // Tick 3: job 0 serves guest 0; guest 1 gives job 1 up, asks again behind it; guest 2 was refused by 2: lost.
        int[] then = {1, 3, 1, 1, 3, 1, 1, 2, 0, 1, 2, 0};
        for (int what = 0; what < 12; what++) due("count " + what, x.count(what), then[what]);
        due("no such", x.count(12), NONE);
        due("no such", x.count(-1), NONE);
    }

    private static void still() {
        StormBench x = with(1, 0, 1);
        x.service(1, 0, 1);
        x.crowd(1, 0, 1);
        x.crowd(2, 0, 1);
        x.ticks(1);
        due("a guest came", x.count(11), 1);
        x.ticks(1);
        due("one was refused", x.count(11), 0);
        x.ticks(1);
        due("one is lost", x.count(11), 0);
        x.ticks(1);
        due("nothing", x.count(11), 1);
        // A job that is over without asking, as its service rests, has not failed.
        StormBench y = with(2, 0, 1);
        y.service(1, 0, 9);
        y.rule(0, 0, 1);
        y.rule(0, 4, 1);
        y.guests(0, 60);
        y.crowd(1, 0, 1);
        y.crowd(4, 0, 1);
        y.ticks(3);
        due("failed", y.count(11), 0);
        y.ticks(1);
        due("lost", y.count(11), 0);
        y.ticks(1);
        due("over, bad, without asking", y.about(0, 9), 2);
        due("still", y.count(11), 1);
        y.ticks(1);
        due("its guest is lost", y.count(11), 0);
    }

    private static void rest() {
        StormBench x = new StormBench();
        due("NONE ahead of STATE", x.rest(23), NONE);
        due("STATE", x.rest(24), STATE);
        x.service(1, 0, 1);
        due("below", x.rest(23), NONE);
        due("above", x.rest(401), NONE);
        x.usual(1);
        x.place(0, 0, 1);
        due("a guest each tick, work of one tick", x.rest(24), 1);
        due("most", x.rest(400), 1);
        x.crowd(1, 0, 30);
        due("what is told is left aside", x.rest(24), 1);
        x.rule(0, 8, 2);
        due("too much work", x.rest(400), NEVER);
        x.rule(0, 8, 1);
        x.ticks(1);
        due("29 lost by the next tick", x.rest(25), 2);
        due("not within 24", x.rest(24), NEVER);
        due("the house is as before", x.count(1) * 1000 + x.count(3) * 10 + x.count(9), 1300 + 10);
        x.usual(12);
        x.place(1, 0, 2);
        x.ticks(1);
        due("never 24 side by side", x.rest(400), NEVER);
    }

    private static void bears() {
        StormBench x = new StormBench();
        due("NONE ahead of STATE", x.bears(8, 24), NONE);
        due("NONE ahead of STATE", x.bears(0, 23), NONE);
        due("STATE", x.bears(0, 24), STATE);
        x.service(1, 0, 1);
        due("key", x.bears(-1, 24), NONE);
        due("above", x.bears(0, 401), NONE);
        due("two: refused by 1, lost by 2", x.bears(0, 24), 1);
        due("still from 3 on, to 26", x.bears(0, 25), 1);
        due("that's enough for all", x.bears(0, 26), 30);
        x.crowd(1, 0, 30);
        due("what is told is left aside", x.bears(0, 24), 1);
        due("the house is as before", x.count(9) * 10 + x.count(1), 10);
        x.usual(1);
        x.place(0, 0, 2);
        due("not even with 0", x.bears(0, 400), NEVER);
        StormBench y = with(2, 3, 1);
        y.usual(12);
        y.place(1, 4, 1);
        due("ahead of the usual one: five in all", y.bears(0, 24), 4);
    }

    /** Two hands ask one: the second job is refused by tick 2, and answered if it asks again by tick 5. */
    private static StormBench twoAskOne() {
        StormBench x = with(2, 5, 1);
        x.service(1, 0, 3);
        return x;
    }

    private static void best() {
        StormBench x = new StormBench();
        due("no such service", x.best(0, 0, 0, 24), NONE);
        x = twoAskOne();
        due("service", x.best(2, 0, 0, 24), NONE);
        due("service", x.best(-1, 0, 0, 24), NONE);
        due("key", x.best(0, 8, 0, 24), NONE);
        due("key", x.best(0, -1, 0, 24), NONE);
        due("many", x.best(0, 0, 31, 24), NONE);
        due("many", x.best(0, 0, -1, 24), NONE);
        due("below", x.best(0, 0, 0, 23), NONE);
        due("above", x.best(0, 0, 0, 401), NONE);
        due("no blow: the least of all", x.best(0, 0, 0, 24), 0);
        due("AGAIN 1 and PAUSE 2", x.best(0, 0, 2, 100), 12);
        due("nothing is set", x.ruleOf(0, 1) * 10 + x.ruleOf(0, 2), 1);
        due("nothing went by", x.count(1) + x.count(4), 0);
        due("another one has no rule that helps", x.best(1, 0, 2, 100), 0);
        due("a fail by 2, not within 25", x.best(0, 0, 2, 25), NEVER);
        due("within 26", x.best(0, 0, 2, 26), 12);
        due("one lost by 3, not within 26", x.best(1, 0, 2, 26), NEVER);
        due("within 27", x.best(1, 0, 2, 27), 0);
    }

    private static void price() {
        StormBench x = twoAskOne();
        due("ahead of any", x.price(), 0);
        due("best", x.best(1, 0, 2, 100), 0);
        due("one is lost", x.price(), 1);
        due("NEVER", x.best(1, 0, 2, 24), NEVER);
        due("as before", x.price(), 1);
        due("NONE", x.best(1, 0, 2, 23), NONE);
        due("as before", x.price(), 1);
        due("best", x.best(0, 0, 2, 100), 12);
        due("none", x.price(), 0);
        // Timeouts of 1: the job of service 1 is for nobody by 5, and the guest is lost by 4.
        StormBench y = with(1, 0, 1);
        y.service(1, 0, 3);
        y.rule(0, 0, 1);
        due("best", y.best(1, 0, 1, 100), 0);
        due("lost and for nobody", y.price(), 2);
        y.crowd(1, 0, 1);
        y.ticks(20);
        due("counted there", y.count(6) * 10 + y.count(8), 11);
        due("what was ahead is no part of it", y.best(1, 0, 1, 100) + y.price(), 2);
    }
}
