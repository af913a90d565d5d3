/** To rest, what is borne, rules set and their price: the edges of 24 ticks, of N, of guests and of rules tried. */
public final class EdgesOfTrialsTest {
    private static final int NONE = Due.NONE, NEVER = Due.NEVER;
    private static final Due due = new Due();

    public static void main(String[] args) {
        stillFromTheFirstTick(); twentyThreeAreTooFew(); twentyFourAreEnough(); lastTickOfN(); longestN();
        neverWithUnrestEachPeriod(); toldIsLeftAside(); whatIsThereCounts(); placeOfTheNextTick();
        bearsNone(); bearsThirty(); bearsNever(); bearsWithEachNumber(); bearsAheadOfUsual(); bearsByKey();
        setOfNoBlow(); setOfThreeAndThree(); setNoMoreThanThree(); setLeastAgainThenLeastPause(); setNever();
        setThirty(); setLeavesTheOtherRules(); setWhatAsksAlready();
        priceAheadOfAny(); priceStays(); priceOfThoseTicksAlone(); priceOfLostAndNobody(); priceToTheEndOfN();
        allThisIsTried(); triedBeyondTheLastTick();
        restAsItComes(); bearsAsItComes(); bestAsItComes();
        due.end();
    }

    private static StormBench with(int hands, int room, int work) {
        StormBench x = new StormBench();
        x.service(hands, room, work);
        return x;
    }

    /** A guest that came by tick 1 gives up by 1 and patience; four works of nine ticks would serve it by 37. */
    private static StormBench oneGivesUp(int patience) {
        StormBench x = with(1, 0, 9);
        for (int i = 1; i < 4; i++) x.service(1, 0, 9);
        for (int i = 0; i < 4; i++) x.rule(i, 0, 40);
        x.guests(0, patience);
        x.crowd(1, 0, 1);
        x.ticks(1);
        return x;
    }

    // ---- to rest

    private static void stillFromTheFirstTick() {
        due.by(16, "the first TICK of these, counted from 1");
        StormBench x = with(1, 0, 1);
        due.is("an empty house", x.rest(24), 1);
        x.ticks(7);
        due.is("counted from 1, not from TICK", x.rest(24), 1);
        due.is("the first of many", x.rest(400), 1);
    }

    private static void twentyThreeAreTooFew() {
        due.by(16, "if in some 24 TICKS side by side, all within the next N, it is STILL");
        StormBench x = oneGivesUp(24);
        due.is("lost by the 24th", x.rest(24), NEVER);
        due.is("23 still ones behind it", x.rest(47), NEVER);
        due.is("24 still ones behind it", x.rest(48), 25);
        due.is("they are the first", x.rest(400), 25);
    }

    private static void twentyFourAreEnough() {
        due.by(16, "if in some 24 TICKS side by side, all within the next N, it is STILL");
        StormBench x = oneGivesUp(25);
        due.is("lost by the 25th", x.rest(24), 1);
        due.is("24 still ones ahead of it are enough", x.rest(400), 1);
    }

    private static void lastTickOfN() {
        due.by(16, "all within the next N");
        StormBench x = with(1, 0, 1);
        x.crowd(1, 0, 2);
        x.ticks(1);
        due.is("one is lost by the next tick: 2 to 25", x.rest(24), NEVER);
        due.is("one is lost by the next tick: 2 to 25", x.rest(25), 2);
    }

    private static void longestN() {
        due.by(16, "TO REST within N (24 .. 400)");
        // A guest lost in each tick of place 0, so that 11 ticks are still at most.
        StormBench x = with(1, 0, 9);
        x.usual(12);
        x.place(0, 0, 2);
        due.is("never", x.rest(400), NEVER);
        x.place(0, 0, 1);
        due.is("one of nine ticks in twelve", x.rest(400), 1);
        x.place(8, 0, 1);
        due.is("and one that comes while it works: works by 8 to 17, so the one of 12 is refused", x.rest(400), NEVER);
    }

    private static void neverWithUnrestEachPeriod() {
        due.by(16, "NEVER if it does not.");
        StormBench x = with(1, 0, 2);
        x.usual(1);
        x.place(0, 0, 1);
        due.is("every second one is refused", x.rest(24), NEVER);
        due.is("every second one is refused", x.rest(400), NEVER);
    }

    private static void toldIsLeftAside() {
        due.by(16, "(what is TOLD is left aside)");
        StormBench x = with(1, 0, 9);
        for (int i = 1; i <= 40; i++) x.crowd(i, 0, 30);
        due.is("rest", x.rest(24), 1);
        due.is("bears", x.bears(0, 24), 1);
        due.is("best", x.best(0, 0, 1, 24), 0);
        due.is("price", x.price(), 0);
        due.is("they are kept", x.count(9), 40);
        x.ticks(1);
        due.is("and come", x.count(4), 30);
    }

    private static void whatIsThereCounts() {
        due.by(16, "from what is there now with the USUAL CROWD alone");
        StormBench x = with(1, 20, 9);
        x.crowd(1, 0, 3);
        x.ticks(1);
        // Served by 10 and 19; the third one's deadline is 21, the 20th tick from now.
        due.is("lost by the 20th", x.rest(43), NEVER);
        due.is("21 to 44", x.rest(44), 21);
        x.ticks(20);
        due.is("it is lost", x.count(6), 1);
        due.is("and then nothing is there", x.rest(24), 1);
    }

    private static void placeOfTheNextTick() {
        due.by(16, "in each TICK those of place TICK % PERIOD");
        // By place 3 two come to one hand; from TICK 3 on the next such tick is the 12th.
        StormBench x = with(1, 0, 1);
        x.usual(12);
        x.place(3, 0, 2);
        x.ticks(3);
        x.place(3, 0, 1);
        due.is("the one refused by 3 is lost by 4", x.rest(25), 2);
        x.place(4, 0, 2);
        due.is("two by the next tick", x.rest(400), NEVER);
    }

    // ---- what is borne

    private static void bearsNone() {
        due.by(17, "the greatest b (0 .. 30)");
        StormBench x = with(1, 0, 9);
        x.guests(0, 1);
        due.is("one is lost by the second tick", x.bears(0, 24), 0);
        due.is("one is lost by the second tick", x.bears(0, 25), 0);
        due.is("3 to 26", x.bears(0, 26), 30);
    }

    private static void bearsThirty() {
        due.by(17, "the greatest b (0 .. 30)");
        StormBench x = with(9, 20, 1);
        due.is("29 are there at most", x.bears(0, 24), 29);
        x.rule(0, 3, 60);
        x.crowd(1, 3, 1);
        x.ticks(2);
        due.is("of a kept key all are served at once", x.bears(3, 24), 30);
    }

    private static void bearsNever() {
        due.by(17, "NEVER, if not even with 0.");
        StormBench x = with(1, 0, 1);
        x.usual(1);
        x.place(0, 0, 2);
        for (int n = 24; n <= 400; n += 94) due.is("bears(0, " + n + ")", x.bears(0, n), NEVER);
        StormBench y = oneGivesUp(24);
        due.is("not with 0 by 47", y.bears(0, 47), NEVER);
    }

    private static void bearsWithEachNumber() {
        due.by(17, "such that with each number of 0 .. b GUESTS of a KEY more in the next TICK");
        // With one more the second job of service 0 is refused by 4, its guest lost by 5: 6 to 29.
        // With two more or more the usual one of tick 2 is refused at once, the last one lost by 4: 5 to 28.
        StormBench x = with(2, 0, 2);
        x.service(1, 0, 2);
        x.usual(2);
        x.place(0, 0, 1);
        due.is("with 0", x.rest(28), 1);
        due.is("two would be borne by 28", x.best(1, 0, 2, 28), 0);
        due.is("30 would be borne by 28", x.best(1, 0, 30, 28), 0);
        due.is("but one would not", x.best(1, 0, 1, 28), NEVER);
        due.is("so none is", x.bears(0, 28), 0);
        due.is("by 29 all are", x.bears(0, 29), 30);
    }

    private static void bearsAheadOfUsual() {
        due.by(17, "(ahead of the USUAL ones)");
        // The usual one's key is kept: it needs no place. The others fill hand and row.
        StormBench x = with(1, 2, 1);
        x.usual(12);
        x.place(1, 4, 1);
        due.is("four in all are too many", x.bears(0, 24), 2);
        StormBench y = with(1, 0, 5);
        y.service(1, 0, 5);
        y.rule(0, 3, 60);
        y.crowd(1, 4, 1);
        y.ticks(11);
        y.usual(12);
        y.place(0, 4, 1);
        due.is("the usual one is a hit", y.bears(0, 24), 1);
        due.is("hits without end", y.bears(4, 24), 30);
    }

    private static void bearsByKey() {
        due.by(17, "NONE (n as rest(); key 0 .. 7), STATE, NEVER.");
        StormBench x = with(1, 0, 1);
        x.rule(0, 3, 60);
        x.crowd(1, 7, 1);
        x.ticks(2);
        for (int key = 0; key <= 6; key++) due.is("bears(" + key + ", 24)", x.bears(key, 24), 1);
        due.is("the kept one", x.bears(7, 24), 30);
    }

    // ---- rules set

    /** Two hands ask one, which has ever so many works of nine ticks behind it: the second job must ask again late. */
    private static StormBench twoAskOne(int worksBehind) {
        StormBench x = with(2, 0, 1);
        for (int i = 0; i < worksBehind; i++) x.service(1, 0, 9);
        for (int i = 0; i <= worksBehind; i++) x.rule(i, 0, 40);
        x.guests(0, 60);
        return x;
    }

    private static void setOfNoBlow() {
        due.by(18, "NONE (many 0 .. 30); NEVER: none of them.");
        StormBench x = twoAskOne(2);
        due.is("no guest more", x.best(0, 0, 0, 24), 0);
        due.is("price", x.price(), 0);
        due.is("one more", x.best(0, 0, 1, 24), 0);
        due.is("price", x.price(), 0);
    }

    private static void setOfThreeAndThree() {
        due.by(18, "of all AGAIN 0 .. 3 and PAUSE 0 .. 3 (all else as it is)");
        // Busy from 2 to 20: refused by 2, 6 and 13, asked once more by 26. A pause of 2 ends by 19: too early.
        StormBench x = twoAskOne(2);
        due.is("AGAIN 3 and PAUSE 3", x.best(0, 0, 2, 100), 33);
        due.is("price", x.price(), 0);
        due.is("the last fail is by 13: 14 to 37", x.best(0, 0, 2, 37), 33);
        // By 36: those with fewer fails, whose guest is lost by 3 at least: that of the least AGAIN.
        due.is("not by 36", x.best(0, 0, 2, 36), 0);
        due.is("price", x.price(), 1);
    }

    private static void setNoMoreThanThree() {
        due.by(18, "of all AGAIN 0 .. 3 and PAUSE 0 .. 3 (all else as it is)");
        // Busy from 2 to 29: a pause of 3 ends by 26 for the third time. AGAIN 4 or PAUSE 4 would do.
        StormBench x = twoAskOne(3);
        due.is("none helps", x.best(0, 0, 2, 100), 0);
        due.is("price", x.price(), 1);
        x.rule(0, 1, 4);
        x.rule(0, 2, 9);
        due.is("what the rules are is no matter", x.best(0, 0, 2, 100), 0);
        due.is("price", x.price(), 1);
    }

    private static void setLeastAgainThenLeastPause() {
        due.by(18, "of several the least AGAIN, then the least PAUSE");
        // Busy from 2 to 5: AGAIN 1 with PAUSE 2 or 3, AGAIN 2 with PAUSE 1 .. 3, AGAIN 3 with any cost nothing.
        StormBench x = with(2, 0, 1);
        x.service(1, 0, 3);
        due.is("AGAIN 1 and PAUSE 2", x.best(0, 0, 2, 100), 12);
        due.is("of the last service no rule is asked for", x.best(1, 0, 2, 100), 0);
        due.is("price", x.price(), 1);
    }

    private static void setNever() {
        due.by(18, "NEVER: none of them.");
        StormBench x = with(2, 0, 1);
        x.service(1, 0, 3);
        due.is("a fail by 2: 3 to 26 at best", x.best(0, 0, 2, 25), NEVER);
        due.is("a fail by 2: 3 to 26 at best", x.best(0, 0, 2, 26), 12);
        x.usual(1);
        x.place(0, 0, 5);
        due.is("too many usual ones", x.best(0, 0, 0, 400), NEVER);
    }

    private static void setThirty() {
        due.by(18, "NONE (many 0 .. 30); NEVER: none of them.");
        StormBench x = with(9, 20, 1);
        due.is("30 to a house for 29", x.best(0, 0, 30, 26), 0);
        due.is("one lost", x.price(), 1);
        due.is("31", x.best(0, 0, 31, 26), NONE);
        due.is("one lost", x.price(), 1);
        due.is("not by 25", x.best(0, 0, 30, 25), NEVER);
        due.is("29", x.best(0, 0, 29, 24), 0);
        due.is("none lost", x.price(), 0);
    }

    private static void setLeavesTheOtherRules() {
        due.by(18, "(all else as it is)");
        // Service 1 asks again by its own rules while those of service 0 are tried.
        StormBench x = with(2, 0, 1);
        x.service(2, 0, 1);
        x.service(1, 0, 3);
        x.rule(1, 1, 1);
        x.rule(1, 2, 2);
        due.is("service 1 helps itself", x.best(0, 0, 2, 100), 0);
        due.is("price", x.price(), 0);
        x.rule(1, 1, 0);
        due.is("now service 0 must", x.best(0, 0, 2, 100), 11);
        due.is("price", x.price(), 0);
    }

    private static void setWhatAsksAlready() {
        due.by(18, "All this is tried: the house is as before then.");
        // By TICK 1 two jobs work already: what is tried is for them, too.
        StormBench x = with(2, 0, 1);
        x.service(1, 0, 3);
        x.crowd(1, 0, 2);
        x.ticks(1);
        due.is("for those that are there", x.best(0, 0, 0, 100), 12);
        due.is("price", x.price(), 0);
    }

    // ---- price

    private static void priceAheadOfAny() {
        due.by(19, "(0 ahead of any)");
        StormBench x = new StormBench();
        due.is("a new object", x.price(), 0);
        due.is("refused", x.best(0, 0, 0, 24), NONE);
        due.is("none was found", x.price(), 0);
        x.service(9, 20, 1);
        due.is("never", x.best(0, 0, 30, 25), NEVER);
        due.is("none was found", x.price(), 0);
    }

    private static void priceStays() {
        due.by(19, "The PRICE of the latest best() that was found");
        StormBench x = with(9, 20, 1);
        due.is("found", x.best(0, 0, 30, 26), 0);
        due.is("price", x.price(), 1);
        due.is("never", x.best(0, 0, 30, 24), NEVER);
        due.is("as before", x.price(), 1);
        due.is("refused", x.best(0, 8, 30, 26), NONE);
        due.is("as before", x.price(), 1);
        x.rest(24);
        x.bears(0, 26);
        x.ticks(1);
        due.is("as before", x.price(), 1);
        due.is("found", x.best(0, 0, 29, 24), 0);
        due.is("price", x.price(), 0);
    }

    private static void priceOfThoseTicksAlone() {
        due.by(19, "in those N TICKS (with these b)");
        StormBench x = with(1, 0, 5);
        x.guests(0, 1);
        x.crowd(1, 0, 4);
        x.ticks(20);
        due.is("lost and for nobody by now", x.count(6) * 10 + x.count(8), 41);
        due.is("found", x.best(0, 0, 0, 24), 0);
        due.is("none of these", x.price(), 0);
        due.is("found", x.best(0, 0, 4, 26), 0);
        due.is("five more, as by 20", x.price(), 5);
    }

    private static void priceOfLostAndNobody() {
        due.by(19, "how many GUESTS are LOST, and how many JOBS for NOBODY there are");
        // Lost by 4; the job of service 1 is for nobody by 5.
        StormBench x = with(1, 0, 1);
        x.service(1, 0, 3);
        x.rule(0, 0, 1);
        due.is("found", x.best(1, 0, 1, 100), 0);
        due.is("one each", x.price(), 2);
    }

    private static void priceToTheEndOfN() {
        due.by(19, "in those N TICKS (with these b)");
        // The guest is lost by 26, the 25th tick from now; its jobs are over for nobody by 37, the 36th.
        StormBench x = oneGivesUp(25);
        int[] n = {24, 25, 35, 36, 400};
        int[] price = {0, 1, 1, 2, 2};
        for (int i = 0; i < n.length; i++) {
            due.is("at rest from 1 on, by " + n[i], x.best(3, 0, 0, n[i]), 0);
            due.is("price by " + n[i], x.price(), price[i]);
        }
    }

    // ---- tried

    private static StormBench inTheStorm() {
        StormBench x = with(4, 2, 1);
        x.service(1, 1, 3);
        x.rule(0, 0, 4);
        x.rule(0, 1, 2);
        x.rule(0, 2, 3);
        x.rule(0, 4, 3);
        x.rule(1, 3, 9);
        x.rule(1, 6, 1);
        x.guests(0, 9);
        x.guests(1, 1);
        x.usual(5);
        x.place(0, 6, 1);
        x.crowd(1, 1, 1);
        x.crowd(2, 2, 4);
        x.crowd(4, 3, 3);
        x.crowd(9, 4, 2);
        x.ticks(5);
        return x;
    }

    private static void allThisIsTried() {
        due.by(16, "All this is tried: the house is as before then.");
        StormBench x = inTheStorm();
        StormBench y = inTheStorm();
        due.is("rest", x.rest(400), x.rest(400));
        due.is("bears", x.bears(1, 400), x.bears(1, 400));
        due.is("best", x.best(0, 1, 30, 400), y.best(0, 1, 30, 400));
        due.same("at once", x, y);
        due.is("ticks", x.ticks(40), y.ticks(40));
        due.same("40 ticks later", x, y);
    }

    private static void triedBeyondTheLastTick() {
        due.by(16, "TO REST within N (24 .. 400)");
        StormBench x = with(1, 0, 1);
        for (int i = 0; i < 200; i++) x.ticks(500);
        x.usual(12);
        x.place(Math.floorMod(100003, 12), 0, 2);
        due.is("the third tick beyond is not still, nor any twelfth from it", x.rest(400), NEVER);
        x.usual(1);
        due.is("rest", x.rest(400), 1);
        due.is("bears", x.bears(0, 24), 1);
        due.is("best", x.best(0, 0, 2, 26), 0);
        due.is("price", x.price(), 1);
        due.is("TICK", x.count(1), 100000);
    }

    // ---- what is tried comes so, if it is done

    private static final int STORMS = 24;
    private static final int N = 110;

    /** Houses in the middle of unrest, which differ in what is kept, how often is asked again, who is sick. */
    private static StormBench storm(int which) {
        StormBench x = with(3 + which % 3, which % 5, 1);
        x.service(1 + which % 2, 1, 2 + which % 2);
        x.rule(0, 0, 3 + which % 4);
        x.rule(0, 1, which % 3);
        x.rule(0, 2, which % 4);
        x.rule(which % 2, 3, which % 3 * 15);
        x.rule(0, 4, which % 4 * 2);
        x.rule(0, 5, 5 + which % 7);
        x.rule(which / 2 % 2, 6, which / 4 % 2);
        x.guests(0, 4 + which % 9);
        x.guests(1, which / 3 % 4);
        x.usual(9 + which % 4);
        x.place(which % 9, which % 8, 1);
        x.crowd(1, (which + 3) % 8, 2);
        x.crowd(2, which % 8, 4 + which % 5);
        x.crowd(4, (which + 1) % 8, 3 + which % 11);
        x.ticks(5);
        return x;
    }

    /** The first of 24 still ticks among the next n, as they truly go by. */
    private static int firstStill(StormBench x, int n) {
        int still = 0;
        for (int t = 1; t <= n; t++) {
            x.ticks(1);
            still = x.count(11) == 1 ? still + 1 : 0;
            if (still == 24) return t - 23;
        }
        return NEVER;
    }

    private static void restAsItComes() {
        due.by(16, "It comes TO REST, from what is there now with the USUAL CROWD alone");
        for (int which = 0; which < STORMS; which++) {
            StormBench x = storm(which);
            due.is("storm " + which, x.rest(N), firstStill(storm(which), N));
        }
    }

    private static void bearsAsItComes() {
        due.by(17, "with each number of 0 .. b GUESTS of a KEY more in the next TICK");
        for (int which = 0; which < STORMS; which++) {
            int key = (which + 1) % 8;
            // Just enough for what is there, and a little more: so that a blow soon is too great.
            int n = storm(which).rest(N) + 23 + which % 4;
            int borne = NEVER;
            for (int many = 0; many <= 30; many++) {
                StormBench y = storm(which);
                if (many > 0) y.crowd(6, key, many);
                if (firstStill(y, n) == NEVER) break;
                borne = many;
            }
            due.is("storm " + which, storm(which).bears(key, n), borne);
        }
    }

    private static void bestAsItComes() {
        due.by(18, "that of the least PRICE");
        for (int which = 0; which < STORMS; which++) {
            int service = which / 12;
            int[] found = {NEVER, 0};
            for (int set = 0; set < 16; set++) takeIfLess(found, which, service, set / 4, set % 4);
            StormBench x = storm(which);
            due.is("storm " + which, x.best(service, which % 8, 1 + which % 9, N), found[0]);
            due.is("its price", x.price(), found[1]);
        }
    }

    /** A storm with rules set, and a blow told for its next tick. */
    private static StormBench stormSet(int which, int service, int again, int pause) {
        StormBench x = storm(which);
        x.rule(service, 1, again);
        x.rule(service, 2, pause);
        x.crowd(6, which % 8, 1 + which % 9);
        return x;
    }

    private static void takeIfLess(int[] found, int which, int service, int again, int pause) {
        StormBench y = stormSet(which, service, again, pause);
        int before = y.count(6) + y.count(8);
        y.ticks(N);
        int price = y.count(6) + y.count(8) - before;
        boolean rests = firstStill(stormSet(which, service, again, pause), N) != NEVER;
        if (rests && (found[0] == NEVER || price < found[1])) {
            found[0] = 10 * again + pause;
            found[1] = price;
        }
    }
}
