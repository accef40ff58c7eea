/** Boundaries of part III and of promises 15 to 26: what would be. */
public final class OutlookBoundaries extends Checks {
    /** a and b hold one grain each; in the last of T + 1 minutes all of it runs, and none before. */
    private static final String LATE = "post a 1 0 1;post b 1 0 1;guard g at a;guard h at b;guard i;flow=if minute<T then 0 else neck;";
    /** Only a runs, from minute T on, and a minute later while it is not DRIED. All sleep 1 in the minutes T and T + 1. */
    private static final String LATE_IF_WET = "post a 1 0 1;post b 1 0 1;guard g at a;guard h at b;guard i;damp 1;sleep 1;"
        + "flow=if 0<post then 0 else if minute<T+wet then 0 else above;";

    public static void main(String[] args) {
        nothingHappens();
        ofTheCastleNow();
        outMinutes();
        outBeforeOneComes();
        outRefused();
        sleptMinutes();
        sleptOrMore();
        dryFirstSoonest();
        dryFirstAlike();
        dryFirstNone();
        dryFirstLatest();
        dryFirstRefused();
        dryTwoSoonest();
        dryTwoAlike();
        dryTwoNone();
        dryTwoLatest();
        dryTwoRefused();
        bribeFewest();
        bribeWithin();
        bribeNone();
        bribeRefused();
        weakMinutes();
        weakRefused();
        neverBits();
        neverMinutes();
        spreadMinutes();
        spreadRefused();
        worstPost();
        worstMinutes();
        worstRefused();
        longestWatch();
        freedMinutes();
        longestRefused();
        restsSets();
        restsByHand();
        restsGrains();
        restsUpTo();
        restsMinutes();
        restsRefused();
        whereMinutes();
        whereRefused();
        end();
    }

    private static String at(String text, int minute) {
        return text.replace("T", "" + minute);
    }

    private static void nothingHappens() {
        sentence("III: What would be (nothing happens)");
        SandGuards x = told(RING + "damp 1;flow=neck+1-wet;");
        x.run(2);
        x.tell(0, 3);
        x.hold(1);
        String before = state(x);
        x.out(0);
        x.slept();
        x.dryFirst(0);
        x.dryTwo(1);
        x.bribe(0, 1000);
        x.weak(2000, 0);
        x.never(2000);
        x.spread(2000);
        x.shakeWorst(1000, 0);
        x.longest(1);
        x.rests(99, 300, NONE);
        x.where(0, 2000);
        x.tampered(200, 1, NONE);
        same("the castle", state(x), before);
        is("the slot", x.restore(1), true);
        same("the castle held", sandAndGuards(x), before.substring(before.indexOf(';') + 1));
    }

    /** What was asked of the castle as it was is asked anew of the castle as it is. */
    private static void ofTheCastleNow() {
        sentence("III: What would be: from now on, whatever was asked ahead");
        String text = "post a 2 0 1;post b 3 0 1;guard g at a;guard h at b;guard i;damp 1;flow=1-wet;sleep 3;";
        SandGuards x = told(text);
        String wet = outlooks(x);
        x.hold(0);
        x.dry(0, true);
        String dry = outlooks(x);
        same("DRIED", dry, outlooks(driedAndPinched(text, 0)));
        x.pinch(0, 4);
        String more = outlooks(x);
        same("with a PINCH", more, outlooks(driedAndPinched(text, 4)));
        is("they differ", wet.equals(dry) || dry.equals(more), false);
        x.undo();
        same("undone", outlooks(x), dry);
        x.pinch(0, 4);
        same("done again", outlooks(x), more);
        x.restore(0);
        same("restored", outlooks(x), wet);
        put(x, text.replace("damp 1", "damp 0"));
        is("read()", x.read(), 0);
        same("told anew", outlooks(x), outlooks(told(text.replace("damp 1", "damp 0"))));
        is("read()", x.read(), 0);
        same("nothing told", outlooks(x), outlooks(new SandGuards()));
    }

    private static SandGuards driedAndPinched(String text, int grains) {
        SandGuards x = told(text);
        x.dry(0, true);
        x.pinch(0, grains);
        return x;
    }

    /** Asked twice over, and with other numbers between; what is asked last is what the next one asks first. */
    private static String outlooks(SandGuards x) {
        StringBuilder all = new StringBuilder();
        for (int again = 0; again < 2; again++) {
            all.append(x.rests(4, 9, NONE)).append(',').append(x.rests(4, 9, 0)).append(',');
            all.append(x.slept()).append(',').append(x.dryFirst(0)).append(',').append(x.dryFirst(1)).append(',');
            all.append(x.dryTwo(0)).append(',').append(x.dryTwo(1)).append(',').append(x.out(0)).append(',');
            all.append(x.longest(1)).append(',').append(x.never(4)).append(',').append(x.spread(5)).append(',');
            all.append(x.rests(1, 3, NONE)).append(',').append(x.rests(1, 3, 0)).append(',').append(x.rests(1, 3, 1)).append(',');
            all.append(x.rests(1, 9, NONE)).append(',').append(x.rests(4, 9, NONE)).append(',').append(x.rests(4, 9, 0)).append(';');
        }
        String once = all.substring(0, all.indexOf(";") + 1);
        same("asked twice", all.toString(), once + once);
        return once;
    }

    private static void outMinutes() {
        sentence("15: OUT: behind how many MINUTES (0 .. 2000) nothing is ABOVE (0: now); -2: not");
        is("now", told("post a 0 9 1;").out(0), 0);
        is("now, 0 in it", told("post a 0 0 1;").out(0), 0);
        is("1", told("post a 1 9 1;").out(0), 1);
        is("1", told("post a 5 9 5;").out(0), 1);
        is("2", told("post a 6 9 5;").out(0), 2);
        String late = "post a 999 0 1;flow=if minute<T then 0 else 1;";
        is("2000", told(at(late, 1001)).out(0), 2000);
        is("2001", told(at(late, 1002)).out(0), NOT);
        is("2000, all in the last", told("post a 9 0 1;flow=if minute<1999 then 0 else above;").out(0), 2000);
        is("2001", told("post a 9 0 1;flow=if minute<2000 then 0 else above;").out(0), NOT);
        is("never", told("post a 1 0 0;").out(0), NOT);
        SandGuards x = told(at(late, 1002));
        x.run(1);
        is("2000 from minute 1 on", x.out(0), 2000);
        x = told("post a 60 0 0;damp 0 1;flow=wet;");
        is("an hour", x.out(0), 120);
        x.dry(0, true);
        is("DRIED", x.out(0), NOT);
    }

    private static void outBeforeOneComes() {
        sentence("III: OUT: for the first time, as it is before any one comes");
        SandGuards x = told("post a 2 3 1;post b 9 0 0;guard g at a;guard h at b;guard i;");
        is("two", x.out(0), 2);
        x.run(2);
        glass(x, 0, 5, 0);
        is("turned", x.out(0), 5);
        is("b never", x.out(1), NOT);
        x = told("post a 0 3 1;post b 9 0 0;guard g at a;guard h at b;guard i;");
        is("now, though h comes", x.out(0), 0);
        x.run(1);
        glass(x, 0, 3, 0);
        is("h came", x.out(0), 3);
    }

    private static void outRefused() {
        sentence("15: NONE: no such POST");
        SandGuards x = told("post a 0 9 1;post b 1 0 1;");
        is("the last one", x.out(1), 1);
        for (int post : new int[] {-1, 2, 8, LEAST, GREATEST}) {
            is("out(" + post + ")", x.out(post), NONE);
        }
        is("no posts", new SandGuards().out(0), NONE);
    }

    private static void sleptMinutes() {
        sentence("16: SLEPT by all (0 .. 3000); -2: not");
        is("no guards", told("post a 1 1 1;sleep 9;").slept(), 0);
        is("SLEEP 0", told("post a 1 0 1;guard g at a;sleep 0;").slept(), 0);
        is("1", told("guard g;sleep 1;").slept(), 1);
        is("3000", told("guard g;guard h;sleep 3000;").slept(), 3000);
        is("3001", told("guard g;guard h;sleep 3001;").slept(), NOT);
        is("9999", told("guard g;sleep 9999;").slept(), NOT);
        is("never", told("post a 1 0 0;guard g at a;guard h;sleep 1;").slept(), NOT);
        SandGuards x = told(at(LATE_IF_WET, 2997));
        is("3000, at a post", x.slept(), 3000);
        x = told(at(LATE_IF_WET, 2998));
        is("3001, at a post", x.slept(), NOT);
        x.run(1);
        is("3000 from minute 1 on", x.slept(), 3000);
        x.dry(0, true);
        is("2999", x.slept(), 2999);
    }

    private static void sleptOrMore() {
        sentence("III: SLEPT: each GUARD has slept SLEEP minutes or more in all for the first time");
        SandGuards x = told("guard g;guard h;sleep 5;");
        x.run(4);
        is("one more", x.slept(), 1);
        x.run(1);
        is("now", x.slept(), 0);
        x.run(9);
        is("more", x.slept(), 0);
        // g, h and i each in turn: behind 1 minute one of them has slept 1, behind 2 two of them, behind 3 all.
        x = told("post a 0 0 1;post b 1 0 0;guard g at a;guard h at b;guard i;sleep 1;");
        is("the last of them", x.slept(), 3);
        x.run(2);
        is("the last of them", x.slept(), 1);
        is("two have", x.count(12), 2);
    }

    private static final String WET = "guard u at a;guard v at b;guard w at c;guard x;damp 1;flow=neck-wet;sleep ";

    /** POSTS dried by hand; behind how many minutes all have slept, as it comes minute by minute. */
    private static int byHand(String text, int... posts) {
        SandGuards x = told(text);
        for (int post : posts) {
            x.dry(post, true);
        }
        for (int minute = 0; minute <= 60; minute++) {
            if (x.count(12) == x.count(1)) {
                return minute;
            }
            x.run(1);
        }
        return NOT;
    }

    private static void dries(String text, int asItIs, int[] ones, int post, int minutes) {
        is("as it is: " + text, byHand(text), asItIs);
        for (int one = 0; one < 3; one++) {
            is("with " + one + ": " + text, byHand(text, one), ones[one]);
        }
        SandGuards x = told(text);
        is("post: " + text, x.dryFirst(0), post);
        is("minutes: " + text, x.dryFirst(1), minutes);
    }

    private static void dryFirstSoonest() {
        sentence("III: DRY FIRST: of all POSTS that are not DRIED that which, DRIED now, all have SLEPT soonest by");
        dries("post a 1 2 2;post b 1 0 2;post c 2 1 1;" + WET + "2;", 9, new int[] {8, 9, 9}, 0, 8);
        dries("post a 4 2 1;post b 1 2 2;post c 1 0 2;" + WET + "1;", 5, new int[] {8, 4, 5}, 1, 4);
        dries("post a 4 1 1;post b 2 2 2;post c 2 0 2;" + WET + "1;", 6, new int[] {8, 6, 4}, 2, 4);
        dries("post a 4 1 1;post b 1 0 2;post c 2 0 1;" + WET + "1;", NOT, new int[] {5, NOT, 4}, 2, 4);
        // a law that looks at wet and at nothing else
        SandGuards one = told("post a 9 0 1;post b 2 0 1;guard g at a;guard h at b;guard i;damp 1;flow=1-wet;sleep 1;");
        is("as it is", one.slept(), NOT);
        is("b: h and g sleep from the 2nd and the 4th minute on", one.dryFirst(0), 1);
        is("behind 4 minutes", one.dryFirst(1), 4);
        SandGuards eight = told(posts(8) + guardsAtAll() + "guard x;damp 1;flow=if post<7 then 0 else 1-wet;sleep 0;");
        is("nothing is sooner", eight.dryFirst(0), NOT);
        is("now", eight.dryFirst(1), 0);
        eight = told(posts(8) + guardsAtAll() + "guard x;damp 1;flow=if post<7 then 0 else 1-wet;sleep 1;");
        is("some never sleep", eight.dryFirst(0), NOT);
        eight = told(posts(8) + guards(1) + "guard h at ph;guard k at pg;damp 1;flow=wet;sleep 0;");
        is("nothing is sooner", eight.dryFirst(0), NOT);
        SandGuards x = told("post a 1 2 2;post b 1 0 2;post c 2 1 1;" + WET + "2;");
        x.dry(0, true);
        is("a is DRIED: post", x.dryFirst(0), NOT);
        is("a is DRIED: as it is", x.dryFirst(1), 8);
    }

    private static void dryFirstAlike() {
        sentence("III: DRY FIRST: of alike ones the first");
        dries("post a 3 1 2;post b 4 0 2;post c 1 0 1;" + WET + "1;", 8, new int[] {6, 6, 6}, 0, 6);
        dries("post a 2 2 1;post b 4 0 2;post c 1 0 2;" + WET + "2;", 9, new int[] {8, 8, 9}, 0, 8);
        dries("post a 4 0 2;post b 1 0 2;post c 3 0 1;" + WET + "1;", 5, new int[] {4, 5, 4}, 0, 4);
        dries("post a 3 2 1;post b 4 1 2;post c 1 1 2;" + WET + "1;", 7, new int[] {7, 5, 5}, 1, 5);
        dries("post a 1 1 2;post b 1 2 1;post c 4 2 1;" + WET + "1;", NOT, new int[] {NOT, 7, 7}, 1, 7);
    }

    private static void dryFirstNone() {
        sentence("III: DRY FIRST: none if by none it is sooner than as it is; 17: -2: none; 1 as it is (-2: not)");
        dries("post a 3 1 2;post b 1 0 2;post c 2 2 1;" + WET + "1;", 4, new int[] {4, 4, 4}, NOT, 4);
        dries("post a 4 2 2;post b 2 0 2;post c 3 2 1;" + WET + "2;", 8, new int[] {10, 11, 10}, NOT, 8);
        String never = "post a 4 0 1;post b 1 1 2;post c 4 0 1;guard u at a;guard v at b;guard w at c;damp 1;flow=neck-wet;sleep 2;";
        dries(never, NOT, new int[] {NOT, NOT, NOT}, NOT, NOT);
        is("no posts, no guards", new SandGuards().dryFirst(0), NOT);
        is("no posts, no guards", new SandGuards().dryFirst(1), 0);
        SandGuards x = told("guard g;sleep 7;damp 5;flow=wet;");
        is("no posts", x.dryFirst(0), NOT);
        is("no posts", x.dryFirst(1), 7);
        x = told("post a 1 1 1;post b 1 1 1;guard g at a;sleep 0;damp 5;flow=wet;");
        is("0 is not sooner than 0", x.dryFirst(0), NOT);
        is("0", x.dryFirst(1), 0);
    }

    private static void dryFirstLatest() {
        sentence("17: behind how many MINUTES all have SLEPT then, or as it is (-2: not): 3000 and 3001");
        SandGuards x = told(at(LATE_IF_WET, 2998));
        is("as it is 3001", x.slept(), NOT);
        is("post", x.dryFirst(0), 0);
        is("3000", x.dryFirst(1), 3000);
        x = told(at(LATE_IF_WET, 2997));
        is("as it is 3000: a minute sooner", x.dryFirst(0), 0);
        is("2999", x.dryFirst(1), 2999);
        x = told(at(LATE_IF_WET, 2999));
        is("3001 is not", x.dryFirst(0), NOT);
        is("3001 is not", x.dryFirst(1), NOT);
    }

    private static void dryFirstRefused() {
        sentence("17: NONE for others");
        for (SandGuards x : new SandGuards[] {new SandGuards(), told(RING)}) {
            for (int what : new int[] {-1, 2, LEAST, GREATEST}) {
                is("dryFirst(" + what + ")", x.dryFirst(what), NONE);
            }
        }
    }

    private static void driesTwo(String text, int[] pairs, int two, int minutes) {
        is("with 0 and 1: " + text, byHand(text, 0, 1), pairs[0]);
        is("with 0 and 2: " + text, byHand(text, 0, 2), pairs[1]);
        is("with 1 and 2: " + text, byHand(text, 1, 2), pairs[2]);
        SandGuards x = told(text);
        is("posts: " + text, x.dryTwo(0), two);
        is("minutes: " + text, x.dryTwo(1), minutes);
    }

    private static void dryTwoSoonest() {
        sentence("III: DRY TWO: of all pairs of POSTS that are not DRIED that which, both DRIED now, all have SLEPT soonest by; "
            + "18: 10 * the lesser POST + the other one");
        driesTwo("post a 2 1 2;post b 3 0 2;post c 4 2 1;" + WET + "1;", new int[] {6, 9, 8}, 1, 6);
        driesTwo("post a 3 2 2;post b 1 0 2;post c 4 2 1;" + WET + "2;", new int[] {9, 8, 9}, 2, 8);
        driesTwo("post a 4 1 1;post b 2 2 2;post c 2 0 2;" + WET + "1;", new int[] {8, 7, 4}, 12, 4);
        // sooner than as it is or not: a pair is told
        String later = "post a 4 2 2;post b 3 0 1;post c 1 0 2;" + WET + "1;";
        is("as it is", byHand(later), 6);
        driesTwo(later, new int[] {7, 7, 7}, 1, 7);
        SandGuards x = told(posts(8) + "sleep 1;damp 1;flow=wet;");
        for (int post = 0; post < 6; post++) {
            x.dry(post, true);
        }
        is("the last pair", x.dryTwo(0), 67);
        is("without guards", x.dryTwo(1), 0);
    }

    private static void dryTwoAlike() {
        sentence("III: DRY TWO: of alike ones the first by the lesser POST, then the other one");
        driesTwo("post a 1 0 2;post b 4 1 2;post c 2 2 1;" + WET + "2;", new int[] {9, 9, 9}, 1, 9);
        driesTwo("post a 4 2 2;post b 1 0 2;post c 4 0 2;" + WET + "1;", new int[] {5, 5, 6}, 1, 5);
        driesTwo("post a 3 1 2;post b 1 0 2;post c 2 2 1;" + WET + "1;", new int[] {4, 5, 4}, 1, 4);
        driesTwo("post a 2 2 1;post b 4 0 2;post c 1 0 2;" + WET + "2;", new int[] {9, 8, 8}, 2, 8);
        SandGuards x = told(posts(4) + "damp 1;flow=wet;");
        is("0 and 1", x.dryTwo(0), 1);
        x.dry(0, true);
        is("1 and 2", x.dryTwo(0), 12);
        x.dry(2, true);
        is("1 and 3", x.dryTwo(0), 13);
        x.dry(0, false);
        is("0 and 1", x.dryTwo(0), 1);
        x.dry(1, true);
        is("0 and 3", x.dryTwo(0), 3);
        // where damp is not felt all pairs are alike
        x = told(posts(3) + "sleep 0;guard g at pa;");
        x.dry(0, true);
        is("1 and 2", x.dryTwo(0), 12);
        is("now", x.dryTwo(1), 0);
    }

    private static void dryTwoNone() {
        sentence("18: -2: there are no two, or by none all have SLEPT; 1 -2 likewise");
        SandGuards none = new SandGuards();
        is("no posts", none.dryTwo(0), NOT);
        is("no posts", none.dryTwo(1), NOT);
        SandGuards one = told("post a 1 1 1;damp 1;flow=wet;");
        is("one post", one.dryTwo(0), NOT);
        is("one post", one.dryTwo(1), NOT);
        SandGuards two = told("post a 1 1 1;post b 1 1 1;damp 1;flow=wet;");
        is("two", two.dryTwo(0), 1);
        is("two", two.dryTwo(1), 0);
        two.dry(0, true);
        is("one of them is DRIED", two.dryTwo(0), NOT);
        is("one of them is DRIED", two.dryTwo(1), NOT);
        two.dry(1, true);
        is("both are DRIED", two.dryTwo(0), NOT);
        driesTwo("post a 1 1 1;post b 2 2 2;post c 2 1 2;" + WET + "1;", new int[] {NOT, NOT, NOT}, NOT, NOT);
    }

    private static void dryTwoLatest() {
        sentence("18: behind how many MINUTES (-2 likewise): 3000 and 3001");
        SandGuards x = told(at(LATE_IF_WET, 2998));
        is("3000", x.dryTwo(0), 1);
        is("3000", x.dryTwo(1), 3000);
        x = told(at(LATE_IF_WET, 2999));
        is("3001", x.dryTwo(0), NOT);
        is("3001", x.dryTwo(1), NOT);
    }

    private static void dryTwoRefused() {
        sentence("18: NONE for others");
        for (SandGuards x : new SandGuards[] {new SandGuards(), told(RING)}) {
            for (int what : new int[] {-1, 2, LEAST, GREATEST}) {
                is("dryTwo(" + what + ")", x.dryTwo(what), NONE);
            }
        }
    }

    private static void bribeFewest() {
        sentence("III: BRIBE: the fewest grains (0 and more) that are taken from ABOVE there now so that he goes to BED");
        SandGuards x = told(RING);
        is("none", x.bribe(0, 3), 0);
        is("one", x.bribe(0, 2), 1);
        is("two", x.bribe(0, 1), 2);
        String stuck = "post a 9 0 0;post b 5 0 0;guard g at a;guard h at b;";
        is("all of them", told(stuck).bribe(0, 1), 9);
        is("nothing is above", told("post a 0 0 0;post b 5 0 0;guard g at a;guard h at b;").bribe(0, 1), 0);
        is("7 of them run, no more and no fewer", told(stuck + "flow=if above<7 then 0 else if 7<above then 0 else above;").bribe(0, 1), 2);
        is("9 of them run", told(stuck + "flow=if above<9 then 0 else above;").bribe(0, 1), 0);
        is("1 of them runs", told(stuck + "flow=if 1<above then 0 else above;").bribe(0, 1), 8);
        for (String law : new String[] {"", "flow=neck+0*minute;", "flow=neck+above-above;"}) {
            // h goes on to a, and to BED from there: nothing is to be taken from b.
            x = told("post a 1 5 1;post b 9 0 0;guard g at a;guard h at b;guard i;" + law);
            is("within 7", x.bribe(1, 7), 0);
            // With b empty he goes back to it in the same minute, and to BED from there in the next one.
            is("within 6", x.bribe(1, 6), 9);
            is("within 2", x.bribe(1, 2), 9);
            is("within 1", x.bribe(1, 1), NOT);
            // g goes on to b in the first minute, and stays there, unless a is out then: he goes to BED ahead of that.
            x = told("post a 3 0 1;post b 1 49 1;post c 9 0 0;guard g at a;guard h at b;guard i at c;guard j;" + law);
            is("two", x.bribe(0, 5), 2);
        }
    }

    private static void bribeWithin() {
        sentence("III: BRIBE: within n MINUTES (1 .. 1000)");
        String late = "post a 9 0 0;post b 5 0 0;guard g at a;guard h at b;flow=if minute<T then 0 else above;";
        is("at the end of the 1000th", told(at(late, 999)).bribe(0, 1000), 0);
        is("not within 999: all of them", told(at(late, 999)).bribe(0, 999), 9);
        is("at the end of the 1001st", told(at(late, 1000)).bribe(0, 1000), 9);
        is("at the end of the first", told(at(late, 0)).bribe(0, 1), 0);
        is("at the end of the second", told(at(late, 1)).bribe(0, 1), 9);
        is("at the end of the second", told(at(late, 1)).bribe(0, 2), 0);
    }

    private static void bribeNone() {
        sentence("19: -2: none does");
        is("nobody ahead", told("post a 5 0 1;post b 5 0 1;guard g at a;").bribe(0, 1000), NOT);
        is("one post", told("post a 5 0 1;guard g at a;guard h;").bribe(0, 1000), NOT);
    }

    private static void bribeRefused() {
        sentence("19: NONE: no such ones, he is in BED");
        SandGuards x = told(RING);
        is("in BED", x.bribe(3, 5), NONE);
        for (int guard : new int[] {-1, 4, 12, LEAST, GREATEST}) {
            is("guard " + guard, x.bribe(guard, 5), NONE);
        }
        for (int n : new int[] {-1, 0, 1001, LEAST, GREATEST}) {
            is("n " + n, x.bribe(0, n), NONE);
        }
        is("n 1", x.bribe(0, 1), 2);
        is("n 1000", x.bribe(0, 1000), 0);
    }

    private static void weakMinutes() {
        sentence("20: WEAK, n (1 .. 2000): what 0 how many, 1 the first (from 0 on; -2: none)");
        SandGuards x = told("post a 3 0 1;post b 9 0 1;guard g at a;");
        is("1", x.weak(1, 0), 1);
        is("2000", x.weak(2000, 0), 2000);
        is("the first", x.weak(1, 1), 0);
        is("the first", x.weak(2000, 1), 0);
        x.run(7);
        is("from now on", x.weak(5, 0), 5);
        is("the first", x.weak(5, 1), 0);
        // EMPTY now, but filled at the end
        x = told("post a 3 0 1;post b 9 0 1;guard g at a;guard h;");
        is("EMPTY now", x.count(4), 1);
        is("none", x.weak(2000, 0), 0);
        is("none", x.weak(2000, 1), NOT);
        // left within a minute, but filled at the end
        x = told("post a 0 0 1;post b 0 0 1;guard g at a;guard h at b;");
        is("none", x.weak(2000, 0), 0);
        is("none", x.weak(2000, 1), NOT);
        is("no posts", new SandGuards().weak(1, 0), 0);
        is("no posts", new SandGuards().weak(1, 1), NOT);
        is("no guards", told("post a 1 1 1;").weak(3, 0), 3);
        is("no guards", told("post a 1 1 1;").weak(3, 1), 0);
    }

    private static void weakRefused() {
        sentence("20: NONE: no such ones");
        for (SandGuards x : new SandGuards[] {new SandGuards(), told(RING), told("post a 1 1 1;")}) {
            for (int n : new int[] {-1, 0, 2001, LEAST, GREATEST}) {
                is("weak(" + n + ", 0)", x.weak(n, 0), NONE);
                is("weak(" + n + ", 1)", x.weak(n, 1), NONE);
            }
            for (int what : new int[] {-1, 2, LEAST, GREATEST}) {
                is("weak(1, " + what + ")", x.weak(1, what), NONE);
            }
        }
    }

    private static void neverBits() {
        sentence("21: NEVER: bits of GUARDS");
        is("no guards", told("post a 1 1 1;").never(1), 0);
        is("all sleep", told(guards(12)).never(1), 0);
        // g and h on posts, i in BED: bits 1 and 4
        is("g and h", told("post a 9 0 0;post b 9 0 0;guard g at a;guard i;guard h at b;").never(2000), 5);
        StringBuilder text = new StringBuilder(posts(8).replace(" 1 2 3;", " 9 0 0;") + guards(12));
        is("the last four, when all posts are filled", told(text.toString()).never(1), 0xff);
        text = new StringBuilder(posts(8).replace(" 1 2 3;", " 9 0 0;") + guards(4));
        for (int i = 0; i < 8; i++) {
            text.append("guard h").append((char) ('a' + i)).append(" at p").append((char) ('a' + i)).append(';');
        }
        is("the first four", told(text.toString()).never(2000), 0xff0);
    }

    private static void neverMinutes() {
        sentence("21: n (1 .. 2000); NONE: no such n");
        is("they sleep in the 2000th", told(at(LATE, 1999)).never(2000), 3);
        String late = at(LATE, 1999).replace("post b 1 0 1", "post b 9 0 0");
        is("g sleeps in the 2000th", told(late).never(2000), 2);
        is("and in none before", told(late).never(1999), 3);
        SandGuards x = told(late.replace("1999", "0"));
        is("g sleeps in the first, i gets up", x.never(1), 6);
        x.run(1);
        is("what is past is not asked", x.guard(0, 1), 1);
        is("h sleeps in the next, g does not", x.never(1), 5);
        for (SandGuards y : new SandGuards[] {new SandGuards(), told(RING)}) {
            for (int n : new int[] {-1, 0, 2001, LEAST, GREATEST}) {
                is("never(" + n + ")", y.never(n), NONE);
            }
        }
    }

    private static void spreadMinutes() {
        sentence("22: SPREAD, n (0 .. 2000)");
        SandGuards x = told("post a 9 0 0;guard g at a;guard h;guard i;");
        is("0", x.spread(0), 0);
        is("1", x.spread(1), 1);
        is("2000", x.spread(2000), 2000);
        x.run(5);
        is("in all, now", x.spread(0), 5);
        is("in all", x.spread(2000), 2005);
        is("one guard", told("guard g;").spread(2000), 0);
        is("all alike", told(guards(12)).spread(2000), 0);
        for (int one = 0; one < 4; one++) {
            StringBuilder awake = new StringBuilder("post a 9 0 0;");
            StringBuilder asleep = new StringBuilder("post a 9 0 0;post b 9 0 0;post c 9 0 0;");
            char post = 'a';
            for (int guard = 0; guard < 4; guard++) {
                String name = "guard g" + (char) ('a' + guard);
                awake.append(name).append(guard == one ? " at a;" : ";");
                asleep.append(name).append(guard == one ? ";" : " at " + post++ + ";");
            }
            is("he alone is at a post: " + one, told(awake.toString()).spread(9), 9);
            is("he alone sleeps: " + one, told(asleep.toString()).spread(9), 9);
        }
    }

    private static void spreadRefused() {
        sentence("22: -2: no GUARDS; NONE: no such n");
        is("0", new SandGuards().spread(0), NOT);
        is("2000", told("post a 1 1 1;").spread(2000), NOT);
        for (SandGuards x : new SandGuards[] {new SandGuards(), told(RING)}) {
            for (int n : new int[] {-1, 2001, LEAST, GREATEST}) {
                is("spread(" + n + ")", x.spread(n), NONE);
            }
        }
    }

    /** Which POST lets the fewest have slept, tried by hand. */
    private static void worst(String text, int n, int[] many, int post, int guards) {
        for (int turned = 0; turned < many.length; turned++) {
            SandGuards x = told(text);
            x.turn(turned);
            x.run(n);
            is("with " + turned + " turned: " + text, x.count(12), many[turned]);
        }
        SandGuards x = told(text);
        is("post: " + text, x.shakeWorst(n, 0), post);
        is("guards: " + text, x.shakeWorst(n, 1), guards);
    }

    private static void worstPost() {
        sentence("III: SHAKE WORST: of all POSTS that which, TURNED now, lets the fewest GUARDS have slept SLEEP; of alike ones the first");
        String guards = "guard u at a;guard v at b;guard w at c;guard x;sleep ";
        worst("post a 3 2 2;post b 3 1 2;post c 4 1 1;" + guards + "2;", 7, new int[] {1, 2, 2}, 0, 1);
        worst("post a 4 1 2;post b 3 1 2;post c 2 1 2;" + guards + "2;", 8, new int[] {2, 1, 2}, 1, 1);
        worst("post a 3 2 1;post b 4 0 1;post c 4 2 2;" + guards + "2;", 7, new int[] {2, 2, 1}, 2, 1);
        worst("post a 4 0 2;post b 3 2 1;post c 4 2 2;" + guards + "2;", 6, new int[] {1, 1, 2}, 0, 1);
        worst("post a 2 2 1;post b 4 2 2;post c 4 1 2;" + guards + "2;", 9, new int[] {2, 3, 2}, 0, 2);
        worst("post a 4 2 1;post b 1 1 2;post c 3 2 1;" + guards + "3;", 7, new int[] {1, 0, 0}, 1, 0);
        is("no guards", told(posts(8)).shakeWorst(1, 0), 0);
        is("no guards", told(posts(8)).shakeWorst(1, 1), 0);
    }

    private static void worstMinutes() {
        sentence("III: SHAKE WORST: behind n MINUTES (1 .. 1000)");
        SandGuards x = told("post a 9 9 0;guard g at a;guard h;sleep 1000;");
        is("behind 1000 h has slept 1000", x.shakeWorst(1000, 1), 1);
        is("behind 999 he has not", x.shakeWorst(999, 1), 0);
        x = told("post a 9 9 0;guard g at a;guard h;sleep 1;");
        is("behind 1 he has slept 1", x.shakeWorst(1, 1), 1);
        // The last grain of b runs in the 1000th minute, unless it is turned: g is freed there.
        x = told("post a 9 9 0;post b 1 9 1;guard h at a;guard g at b;guard i;sleep 1;flow=if minute<999 then 0 else neck;");
        is("behind 1000: turned, b is not out", x.shakeWorst(1000, 0), 1);
        is("i alone", x.shakeWorst(1000, 1), 1);
        is("behind 999 all are alike", x.shakeWorst(999, 0), 0);
    }

    private static void worstRefused() {
        sentence("23: -2: no POSTS; NONE: no such ones");
        is("no posts", told("guard g;").shakeWorst(1, 0), NOT);
        is("no posts", told("guard g;").shakeWorst(1000, 1), NOT);
        for (SandGuards x : new SandGuards[] {told("guard g;"), told(RING)}) {
            for (int n : new int[] {-1, 0, 1001, LEAST, GREATEST}) {
                is("shakeWorst(" + n + ", 0)", x.shakeWorst(n, 0), NONE);
                is("shakeWorst(" + n + ", 1)", x.shakeWorst(n, 1), NONE);
            }
            for (int what : new int[] {-1, 2, LEAST, GREATEST}) {
                is("shakeWorst(1, " + what + ")", x.shakeWorst(1, what), NONE);
            }
        }
    }

    private static void longestWatch() {
        sentence("III: LONGEST: the GUARD at a POST whose WATCH is greatest, of alike ones the first; 24: -2: none is at a POST");
        is("all in BED", told(guards(12)).longest(0), NOT);
        is("all in BED", told(guards(12)).longest(1), NOT);
        is("no guards", told(posts(8)).longest(0), NOT);
        SandGuards x = told("post a 9 0 0;post b 9 0 0;post c 9 0 0;guard f;guard g;guard h at c;guard i at a;");
        is("h and i alike: h", x.longest(0), 2);
        x.run(1);
        is("f fills b a minute later than h came", x.guard(0, 2), 1);
        is("and is as long there: f", x.longest(0), 0);
        x = told("post a 9 0 0;post b 9 0 0;post c 9 0 0;guard f;guard g;guard h at c;");
        x.run(1);
        is("all came at once", x.longest(0), 0);
        x = told("post a 9 0 0;post b 9 0 0;guard f;guard g;");
        x.send(1, 1);
        is("g alone", x.longest(0), 1);
        x.run(1);
        is("f came in time", x.longest(0), 0);
        // h is relieved: he who came last is never longest
        x = told("post a 2 3 1;post b 9 0 0;post c 9 0 0;guard i at c;guard g at a;guard h at b;guard j;");
        x.run(1);
        is("i, g, h alike", x.longest(0), 0);
        x.run(1);
        is("i came to a, j to c: h", x.longest(0), 2);
        is("h's watch", x.guard(2, 2), 2);
    }

    private static void freedMinutes() {
        sentence("III: FREED: behind how many MINUTES (1 .. 2000) he goes to BED; 24: -2: not");
        String pair = "post b 9 0 0;guard g at a;guard h at b;";
        is("1", told("post a 1 0 1;" + pair).longest(1), 1);
        is("1, nothing is above", told("post a 0 0 1;" + pair).longest(1), 1);
        is("2", told("post a 2 0 1;" + pair).longest(1), 2);
        String late = "post a 9 0 0;" + pair + "flow=if minute<T then 0 else above;";
        is("2000", told(at(late, 1999)).longest(1), 2000);
        is("2001", told(at(late, 2000)).longest(1), NOT);
        is("never", told("post a 9 0 0;" + pair).longest(1), NOT);
        is("nobody ahead", told("post a 1 0 1;post b 1 0 1;guard g at a;").longest(1), NOT);
        // He goes on to another post first, and is freed there.
        is("from another post", told("post a 1 2 1;post b 9 0 0;guard h at b;guard g at a;guard i;").longest(1), 4);
    }

    private static void longestRefused() {
        sentence("24: NONE for others");
        for (SandGuards x : new SandGuards[] {new SandGuards(), told(RING)}) {
            for (int what : new int[] {-1, 2, LEAST, GREATEST}) {
                is("longest(" + what + ")", x.longest(what), NONE);
            }
        }
    }

    /** In LATE g sleeps if he puts grains into b and h none into a; h if he puts some into a and g none into b. */
    private static void restsSets() {
        sentence("III: RESTS: sets of POSTS from which it is done so that no such GUARD by himself, doing the other thing, would have "
            + "slept more; 25: how many (i NONE), else the i-th (bits of POSTS), the least bits first");
        SandGuards x = told(at(LATE, 0));
        is("all but the empty set", x.rests(1, 1, NONE), 3);
        is("the first", x.rests(1, 1, 0), 1);
        is("the next", x.rests(1, 1, 1), 2);
        is("the last", x.rests(1, 1, 2), 3);
        is("no more", x.rests(1, 1, 3), NONE);
        is("no posts: the empty set", new SandGuards().rests(1, 1, NONE), 1);
        is("no posts: the empty set", new SandGuards().rests(1, 1, 0), 0);
        is("no posts: no more", new SandGuards().rests(1, 1, 1), NONE);
        is("nobody at a post", told(posts(8)).rests(1, 1, NONE), 1);
        is("nobody at a post", told(posts(8)).rests(1, 1, 0), 0);
        // GUARDS at POSTS alone: he at b, and he at h, the last of eight
        x = told(posts(8) + "guard g at ph;guard h at pb;flow=0;");
        is("two of them", x.rests(1, 1, NONE), 4);
        is("the second set", x.rests(1, 1, 1), 2);
        is("the third set", x.rests(1, 1, 2), 128);
        is("the last set", x.rests(1, 1, 3), 130);
        x = told(posts(8) + guardsAtAll() + "flow=0;");
        is("all sets of eight", x.rests(1, 1, NONE), 256);
        is("the last one", x.rests(1, 1, 255), 255);
        is("no more", x.rests(1, 1, 256), NONE);
    }

    private static void restsByHand() {
        sentence("III: RESTS: no such GUARD by himself, doing the other thing, would have slept more: each set tried by hand");
        String[] texts = {"post a 4 0 1;post b 2 0 1;guard g at a;guard h at b;guard i;", "post a 2 0 1;post b 9 0 1;guard g at a;guard h at b;guard i;",
            "post a 4 0 1;post b 2 3 1;post c 7 1 2;guard g at a;guard i;guard h at b;guard k at c;guard m;",
            "post a 4 0 1;post b 2 3 1;post c 7 1 2;guard g at a;guard h at b;", "post a 1 2 1;post b 1 1 1;post c 2 1 1;guard h at c;guard g at b;guard i;"};
        for (String text : texts) {
            for (int n = 1; n <= 12; n++) {
                tryRests(text, 1 + n % 4, n);
            }
        }
    }

    private static void tryRests(String text, int u, int n) {
        SandGuards x = told(text);
        int posts = x.count(0);
        int[][] sleeps = new int[1 << posts][];
        for (int set = 0; set < 1 << posts; set++) {
            SandGuards y = told(text);
            boolean can = true;
            for (int post = 0; post < posts; post++) {
                if ((set >> post & 1) == 1) {
                    can &= y.post(post, 2) != NOT;
                    y.pinch((post + 1) % posts, u);
                }
            }
            y.run(n);
            sleeps[set] = can ? new int[y.count(1)] : null;
            for (int guard = 0; can && guard < y.count(1); guard++) {
                sleeps[set][guard] = y.guard(guard, 1);
            }
        }
        int found = 0;
        for (int set = 0; set < 1 << posts; set++) {
            boolean rests = sleeps[set] != null;
            for (int post = 0; post < posts && rests; post++) {
                int guard = x.post(post, 2);
                rests = guard == NOT || sleeps[set ^ 1 << post][guard] <= sleeps[set][guard];
            }
            if (rests) {
                is("the " + found + "th of rests(" + u + ", " + n + "): " + text, x.rests(u, n, found), set);
                found++;
            }
        }
        is("rests(" + u + ", " + n + "): " + text, x.rests(u, n, NONE), found);
    }

    private static String guardsAtAll() {
        StringBuilder text = new StringBuilder();
        for (int i = 0; i < 8; i++) {
            text.append("guard h").append((char) ('a' + i)).append(" at p").append((char) ('a' + i)).append(';');
        }
        return text.toString();
    }

    private static void restsGrains() {
        sentence("III: PINCHES: u grains (1 .. 99) into the glass of the POST behind theirs");
        // 99 run: with 98 more the one grain is out as well, with 99 more it is not.
        SandGuards x = told(at(LATE, 0).replace("neck", "99"));
        is("1 more", x.rests(1, 1, NONE), 4);
        is("98 more", x.rests(98, 1, NONE), 4);
        is("99 more", x.rests(99, 1, NONE), 3);
        is("99 more", x.rests(99, 1, 0), 1);
        // one post: the one behind it is itself
        is("one post", told("post a 1 0 1;guard g at a;guard h;").rests(1, 1, NONE), 2);
    }

    private static void restsUpTo() {
        sentence("III: PINCHES: no more than up to 9999 ABOVE; what is ABOVE already stays");
        // 9998 above, 9998 run: with one more it is not out.
        SandGuards x = told(at(LATE, 0).replace("neck", "9998"));
        x.pinch(0, 9997);
        x.pinch(1, 9997);
        is("up to 9999", x.rests(1, 1, NONE), 3);
        is("up to 9999", x.rests(99, 1, NONE), 3);
        // 9998 above, 9999 run: no more than one can come.
        x = told(at(LATE, 0).replace("neck", "9999"));
        x.pinch(0, 9997);
        x.pinch(1, 9997);
        is("not up to 10000", x.rests(2, 1, NONE), 4);
        is("not up to 10000", x.rests(99, 1, NONE), 4);
        x.pinch(0, 1);
        x.pinch(1, 1);
        is("9999 already", x.rests(1, 1, NONE), 4);
        // 10000 above by a shake, 9999 run: it is not out, with a pinch or without.
        x = told(at(LATE, 0).replace("1 0 1", "1 1 1").replace("neck", "9999"));
        x.pinch(0, 9998);
        x.pinch(1, 9998);
        x.shake(0, 1);
        x.shake(1, 1);
        is("above", x.post(1, 0), 10000);
        is("it stays", x.rests(1, 1, NONE), 4);
        is("it stays", x.rests(99, 1, NONE), 4);
    }

    private static void restsMinutes() {
        sentence("III: RESTS: behind n MINUTES (1 .. 300)");
        is("in the first", told(at(LATE, 0)).rests(1, 1, NONE), 3);
        is("in the second, behind 1", told(at(LATE, 1)).rests(1, 1, NONE), 4);
        is("in the second, behind 2", told(at(LATE, 1)).rests(1, 2, NONE), 3);
        SandGuards x = told(at(LATE, 1));
        for (int again = 0; again < 2; again++) {
            is("behind 1", x.rests(1, 1, NONE), 4);
            is("behind 2", x.rests(1, 2, NONE), 3);
        }
        is("in the 300th", told(at(LATE, 299)).rests(1, 300, NONE), 3);
        is("in the 300th, behind 299", told(at(LATE, 299)).rests(1, 299, NONE), 4);
        is("in the 301st", told(at(LATE, 300)).rests(1, 300, NONE), 4);
    }

    private static void restsRefused() {
        sentence("25: NONE: no such ones, not so many");
        for (SandGuards x : new SandGuards[] {new SandGuards(), told(RING)}) {
            for (int i = -1; i <= 0; i++) {
                for (int u : new int[] {-1, 0, 100, LEAST, GREATEST}) {
                    is("u " + u, x.rests(u, 1, i), NONE);
                }
                for (int n : new int[] {-1, 0, 301, LEAST, GREATEST}) {
                    is("n " + n, x.rests(1, n, i), NONE);
                }
            }
            for (int i : new int[] {-2, LEAST, GREATEST, x.rests(1, 1, NONE)}) {
                is("i " + i, x.rests(1, 1, i), NONE);
            }
            is("the last one", x.rests(99, 300, x.rests(99, 300, NONE) - 1) >= 0, true);
        }
    }

    private static void whereMinutes() {
        sentence("26: Where a GUARD is behind n MINUTES (0 .. 2000) from now: the POST; -2: in BED");
        SandGuards x = told(at(LATE, 1999).replace("post b 1 0 1", "post b 9 0 0"));
        int[][] places = {{0, 0, 1, NOT}, {1999, 0, 1, NOT}, {2000, NOT, 0, 1}};
        for (int[] place : places) {
            for (int guard = 0; guard < 3; guard++) {
                is("guard " + guard + " behind " + place[0], x.where(guard, place[0]), place[guard + 1]);
            }
        }
        x.run(1);
        is("from now", x.where(0, 1998), 0);
        is("from now", x.where(0, 1999), NOT);
        x.run(1999);
        is("now", x.where(0, 0), NOT);
        is("now", x.where(1, 0), 0);
    }

    private static void whereRefused() {
        sentence("26: NONE: no such ones");
        SandGuards x = told(RING);
        for (int guard : new int[] {-1, 4, 12, LEAST, GREATEST}) {
            is("guard " + guard, x.where(guard, 0), NONE);
        }
        for (int n : new int[] {-1, 2001, LEAST, GREATEST}) {
            is("n " + n, x.where(0, n), NONE);
        }
        is("the last guard", x.where(3, 0), NOT);
        is("no guards", told(posts(8)).where(0, 0), NONE);
    }
}
