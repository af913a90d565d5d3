import java.util.Random;

/** Runs of calls that differ by a seed, on the class and on the plain reading of the document beside it. */
public final class PlainReadingTest {
    private static final int RUNS = 1500;
    private static int wrong = 0;

    private final Random random;
    private final StormBench real = new StormBench();
    private final PlainBench plain = new PlainBench();
    private final int run;
    private final StringBuilder calls = new StringBuilder();

    private PlainReadingTest(int run) {
        this.run = run;
        this.random = new Random(run);
    }

    public static void main(String[] args) {
        int[] met = new int[8];
        for (int run = 0; run < RUNS && wrong < 5; run++) new PlainReadingTest(run).go(met);
        String[] what = {"120 jobs", "100 guests", "a pushed row", "a rest", "a borne blow", "rules set",
            "a price above 0", "40 tellings"};
        for (int i = 0; i < what.length; i++) {
            System.out.println("runs that met " + what[i] + ": " + met[i]);
            if (met[i] == 0) wrong++;
        }
        System.out.println(wrong == 0 ? "all answers are as due" : wrong + " answers are not as due");
        if (wrong != 0) System.exit(1);
    }

    private void go(int[] met) {
        boolean calm = random.nextInt(3) == 0;
        if (random.nextInt(10) == 0) tries(met);
        boolean storm = !calm && random.nextInt(6) == 0;
        int services = storm ? 6 : 1 + random.nextInt(6);
        for (int i = 0; i < services; i++) {
            if (storm) stormService(i); else service(calm);
        }
        for (int i = random.nextInt(services * 6); i > 0; i--) rule(calm);
        if (random.nextInt(8) > 0) guests(calm);
        if (random.nextInt(4) > 0) usual(calm);
        if (storm) stormCrowd();
        int length = 6 + random.nextInt(20);
        for (int i = 0; i < length && wrong < 5; i++) {
            switch (random.nextInt(9)) {
                case 0: rule(calm); break;
                case 1: guests(calm); break;
                case 2: usual(calm); break;
                case 3: service(calm); break;
                case 4: case 5: crowd(calm); break;
                case 6: if (random.nextInt(2) == 0) tries(met); break;
                default: ticks();
            }
            look();
        }
        if (plain.metJobs) met[0]++;
        if (plain.metGuests) met[1]++;
        if (plain.metPush) met[2]++;
        if (plain.price > 0) met[6]++;
        if (plain.count(9) == 40) met[7]++;
    }

    private void due(String call, int got, int want) {
        calls.append(call).append('=').append(want).append(' ');
        if (got != want) {
            wrong++;
            System.out.println("run " + run + ": " + call + " answered " + got + ", due is " + want);
            System.out.println("  behind " + calls);
        }
    }

    /** Mostly a number from least to most; now and then one beyond. */
    private int any(int least, int most) {
        int dice = random.nextInt(40);
        if (dice == 0) return least - 1;
        if (dice == 1) return most + 1;
        if (dice == 2) return least;
        if (dice == 3) return most;
        if (dice == 4 && random.nextInt(4) == 0) return random.nextInt();
        return least + random.nextInt(most - least + 1);
    }

    private void service(boolean calm) {
        int hands = calm ? any(4, 9) : any(1, 9);
        int room = random.nextInt(4) == 0 ? 0 : any(0, 20);
        int work = calm ? any(1, 4) : any(1, 9);
        due("service(" + hands + ", " + room + ", " + work + ")", real.service(hands, room, work),
            plain.service(hands, room, work));
    }

    /** Jobs that are given up at once, with long rows behind them: the way to 120 jobs. */
    private void stormService(int i) {
        due("service(9, 20, " + (i + 1) + ")", real.service(9, 20, i + 1), plain.service(9, 20, i + 1));
        int timeout = 1 + random.nextInt(3);
        due("rule(" + i + ", 0, " + timeout + ")", real.rule(i, 0, timeout), plain.rule(i, 0, timeout));
    }

    /** Guests in each tick that soon give up, for as long as the rows need to be full. */
    private void stormCrowd() {
        int patience = 1 + random.nextInt(3);
        due("guests(0, " + patience + ")", real.guests(0, patience), plain.guests(0, patience));
        due("usual(2)", real.usual(2), plain.usual(2));
        for (int i = 0; i < 2; i++) {
            int key = random.nextInt(8);
            int many = 3 + random.nextInt(3);
            due("place(" + i + ", " + key + ", " + many + ")", real.place(i, key, many), plain.place(i, key, many));
        }
        due("ticks(40)", real.ticks(40), plain.ticks(40));
        look();
    }

    private void rule(boolean calm) {
        int[] least = {1, 0, 0, 0, 0, 1, 0, 1, 1, 0};
        int[] most = {40, 4, 9, 60, 9, 60, 1, 9, 9, 20};
        int service = any(0, Math.max(0, plain.count(0) - 1));
        int what = any(0, 8);
        int v = what < 0 || what > 9 ? any(0, 9) : any(least[what], most[what]);
        if (calm && what == 7 && v < 4) v = 4;
        if (calm && what == 8 && v > 4) v = 4;
        if (what == 3 && random.nextInt(2) == 0) v = random.nextInt(2) * 2;
        due("rule(" + service + ", " + what + ", " + v + ")", real.rule(service, what, v), plain.rule(service, what, v));
    }

    private void guests(boolean calm) {
        int what = any(0, 1);
        int v = what == 0 ? (calm ? any(20, 60) : random.nextInt(3) == 0 ? any(1, 6) : any(1, 60)) : any(0, 3);
        due("guests(" + what + ", " + v + ")", real.guests(what, v), plain.guests(what, v));
    }

    private void usual(boolean calm) {
        int period = any(1, 12);
        if (calm && period < 3) period = 12;
        due("usual(" + period + ")", real.usual(period), plain.usual(period));
        for (int i = random.nextInt(calm ? 3 : 12); i > 0; i--) {
            int place = any(0, 11);
            int key = any(0, 7);
            int many = calm ? any(0, 2) : any(0, 5);
            due("place(" + place + ", " + key + ", " + many + ")", real.place(place, key, many),
                plain.place(place, key, many));
        }
    }

    private void crowd(boolean calm) {
        int tellings = random.nextInt(12) == 0 ? 45 : 1 + random.nextInt(3);
        for (int i = 0; i < tellings; i++) {
            int tick = plain.count(1) + any(1, tellings > 3 ? 90 : 20);
            int key = any(0, 7);
            int many = calm ? any(1, 6) : any(1, 30);
            due("crowd(" + tick + ", " + key + ", " + many + ")", real.crowd(tick, key, many),
                plain.crowd(tick, key, many));
        }
    }

    private void ticks() {
        int n = random.nextInt(30) == 0 ? any(1, 500) : any(1, 25);
        due("ticks(" + n + ")", real.ticks(n), plain.ticks(n));
    }

    private void tries(int[] met) {
        int n = random.nextInt(3) == 0 ? any(24, 400) : any(24, 100);
        int key = any(0, 7);
        int first = plain.rest(n);
        due("rest(" + n + ")", real.rest(n), first);
        if (first > 1) met[3]++;
        int borne = plain.bears(key, n);
        due("bears(" + key + ", " + n + ")", real.bears(key, n), borne);
        if (borne > 0 && borne < 30) met[4]++;
        int service = any(0, Math.max(0, plain.count(0) - 1));
        int many = any(0, 30);
        int set = plain.best(service, key, many, n);
        due("best(" + service + ", " + key + ", " + many + ", " + n + ")", real.best(service, key, many, n), set);
        if (set > 0) met[5]++;
        due("price()", real.price(), plain.price);
    }

    /** All that there is, and a step beyond each edge. */
    private void look() {
        for (int what = -1; what <= 12; what++) due("count(" + what + ")", real.count(what), plain.count(what));
        int before = calls.length();
        for (int s = -1; s <= plain.count(0); s++) {
            for (int what = -1; what <= 13; what++) {
                due("about(" + s + ", " + what + ")", real.about(s, what), plain.about(s, what));
                due("ruleOf(" + s + ", " + what + ")", real.ruleOf(s, what), plain.ruleOf(s, what));
            }
            for (int key = -1; key <= 8; key++) due("kept(" + s + ", " + key + ")", real.kept(s, key), plain.kept(s, key));
            for (int i = -1; i <= 20; i++) due("row(" + s + ", " + i + ")", real.row(s, i), plain.row(s, i));
        }
        for (int i = -1; i <= plain.count(2); i++) {
            for (int what = -1; what <= 7; what++) due("job(" + i + ", " + what + ")", real.job(i, what), plain.job(i, what));
        }
        for (int i = -1; i <= plain.count(3); i++) {
            for (int what = -1; what <= 4; what++) {
                due("guest(" + i + ", " + what + ")", real.guest(i, what), plain.guest(i, what));
            }
        }
        calls.setLength(before);
    }
}
