/** Boundaries of part II and of promises 6 to 14: a MINUTE, FLOW, what is done by hand, what is undone. */
public final class MinuteBoundaries extends Checks {
    /** a is out at the end of each minute in which its last grain runs; b never is. */
    private static final String PAIR = "post a 2 3 1;post b 9 0 0;guard g at a;guard h at b;";

    public static void main(String[] args) {
        flowHeld();
        nothingAbove();
        guardIsThere();
        guardIsAhead();
        firstBehindLast();
        bedBehindAll();
        firstOfBed();
        notHeWhoGoesJustThen();
        leftIsEmpty();
        nothingBelowEither();
        counted();
        emptyIsFilled();
        flowWraps();
        flowInBrackets();
        flowDivides();
        firstIfThatHolds();
        dividedByZero();
        hours();
        dampAgainAndAgain();
        dried();
        asTheMinuteBegins();
        postAndMinute();
        watch();
        postAnswers();
        postRefused();
        guardAnswers();
        guardRefused();
        runMinutes();
        runRefused();
        turned();
        shaken();
        shakeRefused();
        driedOrNot();
        pinched();
        pinchRefused();
        sent();
        sendRefused();
        undoEach();
        undoForty();
        undoAround();
        undoNone();
        end();
    }

    private static void flowHeld() {
        sentence("II: so many grains as FLOW tells, held to 0 .. all of them, run from ABOVE to BELOW");
        int[][] cases = {{0, 0}, {1, 1}, {4, 4}, {5, 5}, {6, 5}, {9999, 5}};
        for (int[] one : cases) {
            runs("post a 5 2 0;flow=" + one[0] + ";", one[1], 5 - one[1], 2 + one[1]);
        }
        runs("post a 5 2 0;flow=0-1;", 0, 5, 2);
        runs("post a 5 2 0;flow=0-9999;", 0, 5, 2);
        runs("post a 0 2 9;", 0, 0, 2);
        runs("post a 1 2 99;", 1, 0, 3);
    }

    private static void runs(String text, int flow, int above, int below) {
        SandGuards x = told(text);
        is("flow of " + text, x.post(0, 5), flow);
        x.run(1);
        glass(x, 0, above, below);
    }

    private static void nothingAbove() {
        sentence("II: if nothing is ABOVE there .. he comes, turns the glass (BELOW is ABOVE, and nothing BELOW)");
        SandGuards x = told(PAIR);
        x.run(1);
        glass(x, 0, 1, 4);
        is("one is above: nobody came", x.post(0, 4), 0);
        is("g stays", x.post(0, 2), 0);
        x.run(1);
        glass(x, 0, 5, 0);
        is("none is above: h came", x.post(0, 4), 1);
        is("h", x.post(0, 2), 1);
        is("b is not out", x.post(1, 4), 0);
    }

    private static void guardIsThere() {
        sentence("II: if .. a GUARD is there");
        SandGuards x = told("post a 1 3 1;post b 9 0 0;guard h at b;");
        x.run(2);
        glass(x, 0, 0, 4);
        is("not turned", x.post(0, 4), 0);
        is("h stays", x.guard(0, 0), 1);
        // He who fills it at the end is there from the next minute on.
        x = told("post a 1 3 1;post b 9 0 0;guard h at b;guard i;");
        x.run(1);
        glass(x, 0, 0, 4);
        is("not turned", x.post(0, 4), 0);
        is("i is there", x.post(0, 2), 1);
        x.run(1);
        glass(x, 0, 4, 0);
        is("turned", x.post(0, 4), 1);
        is("by h", x.post(0, 2), 0);
    }

    private static void guardIsAhead() {
        sentence("II: if .. a GUARD is at the POST ahead of it (another one)");
        SandGuards x = told("post a 1 3 1;post b 9 0 0;guard g at a;");
        x.run(2);
        glass(x, 0, 0, 4);
        is("nobody ahead", x.post(0, 4), 0);
        x = told("post a 1 3 1;guard g at a;guard h;");
        x.run(2);
        glass(x, 0, 0, 4);
        is("one post is not ahead of itself", x.post(0, 4), 0);
        is("g stays", x.post(0, 2), 0);
        is("h sleeps", x.guard(1, 1), 2);
        // The one behind does not come.
        x = told("post a 9 0 0;post b 1 3 1;post c 9 0 0;guard g at b;guard h at c;");
        x.run(2);
        glass(x, 1, 0, 4);
        is("not turned", x.post(1, 4), 0);
        // Who fills the post ahead at the end comes in the next minute.
        x = told("post a 0 0 0;post b 1 0 0;guard g at a;guard h;");
        x.run(1);
        is("nobody was ahead", x.post(0, 4), 0);
        is("h is there now", x.post(1, 2), 1);
        x.run(1);
        is("h came", x.post(0, 4), 1);
    }

    private static void firstBehindLast() {
        sentence("Terms: POSTS in a ring as they stand, the first one behind the last one");
        for (int n = 2; n <= 8; n++) {
            for (int post = 0; post < n; post++) {
                SandGuards x = told(posts(n) + "guard g at p" + (char) ('a' + post) + ";guard h at p"
                    + (char) ('a' + (post + n - 1) % n) + ";flow=if post<" + post + " then 0 else if " + post + "<post then 0 else neck;");
                x.run(1);
                is("of " + n + " who came to " + post, x.post(post, 2), 1);
                is("turned", x.post(post, 4), 1);
                glass(x, post, 3, 0);
            }
        }
    }

    private static void bedBehindAll() {
        sentence("II: the one who was there goes to BED, behind all");
        SandGuards x = told(PAIR + "guard i;guard j;guard k;");
        x.run(2);
        is("i went to b", x.guard(2, 0), 1);
        is("j lies first", x.guard(3, 3), 0);
        is("k behind him", x.guard(4, 3), 1);
        is("g behind all", x.guard(0, 3), 2);
        is("g is in BED", x.guard(0, 0), NOT);
        is("in BED", x.count(3), 3);
        is("he went once", x.guard(0, 4), 1);
    }

    private static void firstOfBed() {
        sentence("II: the first of BED, if one lies there, goes to the POST that was left");
        SandGuards x = told("post a 2 3 1;post b 9 0 0;guard k;guard g at a;guard j;guard h at b;guard i;");
        x.run(2);
        is("k, who lay first", x.post(1, 2), 0);
        is("j lies first", x.guard(2, 3), 0);
        is("i", x.guard(4, 3), 1);
        is("g", x.guard(1, 3), 2);
        is("k slept one minute", x.guard(0, 1), 1);
        is("g has slept one", x.guard(1, 1), 1);
    }

    private static void notHeWhoGoesJustThen() {
        sentence("II: (he who goes to BED just then not)");
        // a and b are out. If g could go to b at once, h would come back to it: b is turned only if i lies in BED.
        String both = "post a 1 0 1;post b 1 0 1;guard g at a;guard h at b;";
        SandGuards x = told(both);
        x.run(1);
        is("a", x.post(0, 4), 1);
        is("b", x.post(1, 4), 0);
        is("g at b, at the end", x.post(1, 2), 0);
        glass(x, 0, 1, 0);
        glass(x, 1, 0, 1);
        x = told(both + "guard i;");
        x.run(1);
        is("a", x.post(0, 4), 1);
        is("b", x.post(1, 4), 1);
        is("h came on to b", x.post(1, 2), 1);
        is("g went back to a", x.post(0, 2), 0);
        is("g went to BED", x.guard(0, 4), 1);
        is("i too, and lies there", x.guard(2, 3), 0);
    }

    private static void leftIsEmpty() {
        sentence("II: without one it is EMPTY");
        // c comes to a; it is EMPTY while the others are gone through, and at the end, since g fills b.
        SandGuards x = told("post a 1 4 1;post b 9 0 0;post c 9 0 0;guard g at a;guard h at c;");
        x.run(1);
        is("h at a", x.post(0, 2), 1);
        is("g at b", x.post(1, 2), 0);
        is("c is EMPTY", x.post(2, 2), NOT);
        is("EMPTY", x.count(4), 1);
        // c is out, too: EMPTY, it is not turned in that minute, and b's guard stays.
        x = told("post a 1 4 1;post b 9 0 0;post c 1 2 1;guard g at a;guard i at b;guard h at c;");
        x.run(1);
        is("a", x.post(0, 4), 1);
        is("c", x.post(2, 4), 0);
        glass(x, 2, 0, 3);
        is("i stays at b", x.post(1, 2), 1);
        is("g at c, at the end", x.post(2, 2), 0);
    }

    private static void nothingBelowEither() {
        sentence("II: If nothing was BELOW either, it is turned all the same.");
        SandGuards x = told("post a 0 0 1;post b 9 0 0;guard g at a;guard h at b;guard i;");
        for (int minute = 1; minute <= 5; minute++) {
            x.run(1);
            is("turned", x.post(0, 4), minute);
            glass(x, 0, 0, 0);
        }
        is("at once", told("post a 0 0 1;post b 9 0 0;guard g at a;guard h at b;").out(0), 0);
        x = told("post a 0 0 1;post b 9 0 0;guard g at a;guard h at b;guard i;");
        x.run(2000);
        is("2000 times", x.post(0, 4), 2000);
    }

    private static void counted() {
        sentence("II: Then all in BED have slept a minute more, all at POSTS have been there a minute more, and it is the next minute.");
        SandGuards x = told(PAIR + "guard i;guard j;");
        is("run", x.run(1), 1);
        same("watches and sleep", watches(x), "0,1;0,1;1,0;1,0;");
        is("run", x.run(1), 2);
        // h came to a, i to b, g to BED: each counts that minute where he is at its end.
        same("watches and sleep", watches(x), "1,0;0,1;1,1;2,0;");
        is("minute", x.count(2), 2);
    }

    private static String watches(SandGuards x) {
        StringBuilder all = new StringBuilder();
        for (int guard = 0; guard < x.count(1); guard++) {
            all.append(x.guard(guard, 1)).append(',').append(x.guard(guard, 2)).append(';');
        }
        return all.toString();
    }

    private static void emptyIsFilled() {
        sentence("II: If a POST is EMPTY, and one lies in BED, the first one goes there, at the end of a MINUTE (POST by POST), "
            + "ahead of what is counted.");
        SandGuards x = told("post a 9 0 0;post b 9 0 0;post c 9 0 0;guard h at b;guard i;");
        is("not before a MINUTE", x.count(4), 2);
        x.run(1);
        is("i at a", x.post(0, 2), 1);
        is("c is EMPTY", x.post(2, 2), NOT);
        is("i has not slept", x.guard(1, 1), 0);
        is("i has been there", x.guard(1, 2), 1);
        x = told("post a 9 0 0;post b 9 0 0;post c 9 0 0;guard i;guard h at b;guard j;guard k;");
        x.run(1);
        is("i at a", x.post(0, 2), 0);
        is("j at c", x.post(2, 2), 2);
        is("k lies first", x.guard(3, 3), 0);
        is("k has slept", x.guard(3, 1), 1);
        is("none is EMPTY", x.count(4), 0);
        // He who was sent to BED in this minute, too, and it counts as gone to BED.
        x = told(PAIR);
        x.run(2);
        is("g at b", x.post(1, 2), 0);
        is("he has not slept", x.guard(0, 1), 0);
        is("he went to BED", x.guard(0, 4), 1);
        is("his watch", x.guard(0, 2), 1);
    }

    /** FLOW of a post with 900 grains above, 40 below, neck 7. */
    private static void flow(String law, int want) {
        is(law, told("post a 900 40 7;flow=" + law + ";").post(0, 5), want);
    }

    private static void flowWraps() {
        sentence("II: FLOW: ints of 32 bits that wrap");
        String least = "(8192*8192*32)";
        flow("if " + least + "<0 then 1 else 2", 1);
        flow("if " + least + "-1<0 then 1 else 2", 2);
        flow("if 0<" + least + "-1 then 1 else 2", 1);
        flow("if " + least + "-1+1<0 then 1 else 2", 1);
        flow("if 0-" + least + "<0 then 1 else 2", 1);
        flow(least + "+" + least + "+5", 5);
        flow(least + "*2+6", 6);
        flow("if " + least + "/(0-1)<0 then 1 else 2", 1);
        flow("8192*8192*64+7", 7);
        flow("8192*8192*63/8192/8192+2", 1);
    }

    private static void flowInBrackets() {
        sentence("II: FLOW: E, PART, UNIT, six ( within one another");
        flow("((((((neck))))))", 7);
        flow(times("1+2*(", 6) + "1+2*post" + times(")", 6), 127);
        flow(times("8-1*(", 6) + "3-0*9" + times(")", 6), 3);
        flow("2+3*4-10/4", 12);
        flow("(2+3)*4", 20);
        flow("100-10-20-30", 40);
        flow("100-(10-20)", 110);
        flow("400/10/4", 10);
        flow("400/(10/4)", 200);
        flow("400/10*4", 160);
        flow("7/2*2", 6);
        flow("wet*100+neck*10+(above-below)/2", 70 + 430);
    }

    private static void flowDivides() {
        sentence("II: / rounded towards 0");
        flow("7/2", 3);
        flow("6/2", 3);
        flow("5/2", 2);
        flow("1/2", 0);
        flow("9+(0-1)/2", 9);
        flow("9+(0-2)/2", 8);
        flow("9+(0-3)/2", 8);
        flow("9+3/(0-2)", 8);
        flow("9+(0-3)/(0-2)", 10);
        flow("9-7/8", 9);
    }

    private static void firstIfThatHolds() {
        sentence("II: the E of the first if that holds (one less than the other), else the last one");
        flow("if 6<neck then 1 else 2", 1);
        flow("if 7<neck then 1 else 2", 2);
        flow("if 8<neck then 1 else 2", 2);
        flow("if 0-1<0 then 1 else 2", 1);
        flow("if 0<0-1 then 1 else 2", 2);
        for (int first = 1; first <= 5; first++) {
            StringBuilder law = new StringBuilder();
            for (int i = 1; i <= 4; i++) {
                law.append("if ").append(i < first ? 5 : 4).append("<5 then ").append(10 * i).append(" else ");
            }
            flow(law + "50", 10 * first);
        }
    }

    private static void dividedByZero() {
        sentence("II: a law in which something that is looked at is divided by 0 is 0");
        flow("1/0", 0);
        flow("0/0", 0);
        flow("5+1/wet", 0);
        flow("5+1/(wet+1)", 6);
        flow("5+1/(wet-1)", 4);
        flow("5+0*(1/0)", 0);
        flow("5+0/(1/2)", 0);
        flow("if 1/0<9 then 1 else 2", 0);
        flow("if 9<1/0 then 1 else 2", 0);
        flow("if 1<2 then 1/0 else 2", 0);
        flow("if 2<1 then 1 else 2/0", 0);
        flow("if 2<1 then 1 else if 1/0<2 then 3 else 4", 0);
        flow("if 1<2 then 3 else 1/0", 3);
        flow("if 1<2 then 3 else if 1/0<2 then 4 else 5", 3);
        flow("if 2<1 then 1/0 else 4", 4);
        flow("if 2<1 then 1/0 else if 2<1 then 1/0 else if 1<2 then 6 else 1/0", 6);
    }

    private static void hours() {
        sentence("II: wet: DAMP of the hour (the minute by 60)");
        SandGuards x = told("post a 999 0 0;flow=wet;damp 3 0 5;");
        int[][] wets = {{0, 3}, {1, 3}, {59, 3}, {60, 0}, {119, 0}, {120, 5}, {179, 5}, {180, 3}, {239, 3}, {240, 0}};
        for (int[] wet : wets) {
            is("minute", x.run(wet[0] - x.count(2)), wet[0]);
            is("wet at minute " + wet[0], x.post(0, 5), wet[1]);
        }
        glass(x, 0, 999 - 180 - 300 - 180, 660);
    }

    private static void dampAgainAndAgain() {
        sentence("Terms: DAMP: hour by hour, again and again");
        StringBuilder day = new StringBuilder("post a 999 0 0;flow=wet*minute;damp");
        for (int hour = 0; hour < 23; hour++) {
            day.append(" 0");
        }
        SandGuards x = told(day + " 1;");
        x.run(1379);
        is("hour 22", x.post(0, 5), 0);
        x.run(1);
        is("hour 23", x.post(0, 5), 999);
        x = told(day.toString().replace("*minute", "") + " 1;");
        x.run(1439);
        is("the last minute of hour 23", x.post(0, 5), 1);
        x.run(1);
        is("hour 0 again", x.post(0, 5), 0);
        glass(x, 0, 939, 60);
        x.run(1380);
        is("hour 23 again", x.post(0, 5), 1);
        x = told("post a 999 0 0;flow=wet;damp 3 1;");
        x.run(30);
        glass(x, 0, 999 - 90, 90);
        x.run(60);
        glass(x, 0, 999 - 180 - 30, 210);
        x.run(110);
        glass(x, 0, 999 - 180 - 60 - 180 - 20, 440);
        x = told("post a 999 0 0;flow=wet;damp 2;");
        x.run(60);
        is("one number for all hours", x.post(0, 5), 2);
        x.run(300);
        glass(x, 0, 999 - 720, 720);
    }

    private static void dried() {
        sentence("II: wet: 0 for a POST that is DRIED; DRIED: DAMP is 0 there from now on (or not any more)");
        SandGuards x = told("post a 99 0 0;post b 99 0 0;flow=wet;damp 3;");
        x.run(1);
        x.dry(0, true);
        is("wet of a", x.post(0, 5), 0);
        is("wet of b", x.post(1, 5), 3);
        x.run(1);
        glass(x, 0, 96, 3);
        glass(x, 1, 93, 6);
        x.dry(0, false);
        is("wet of a", x.post(0, 5), 3);
        x.run(1);
        glass(x, 0, 93, 6);
        glass(x, 1, 90, 9);
    }

    private static void asTheMinuteBegins() {
        sentence("II: above, below: grains there as the MINUTE begins");
        SandGuards x = told("post a 8 1 0;flow=above/2;");
        for (int above : new int[] {4, 2, 1, 1}) {
            x.run(1);
            glass(x, 0, above, 9 - above);
        }
        x = told("post a 9 1 0;flow=below;");
        for (int above : new int[] {8, 6, 2, 0}) {
            x.run(1);
            glass(x, 0, above, 10 - above);
        }
        // a glass that is turned at the end of a minute runs from the next one on
        x = told("post a 1 8 0;post b 9 9 0;guard g at a;guard h at b;flow=if post<1 then above/2+1 else 0;");
        x.run(1);
        glass(x, 0, 9, 0);
        x.run(1);
        glass(x, 0, 4, 5);
    }

    private static void postAndMinute() {
        sentence("II: minute; post: its number");
        SandGuards x = told(posts(8).replace(" 1 2 3;", " 99 0 0;") + "flow=post;");
        for (int post = 0; post < 8; post++) {
            is("post", x.post(post, 5), post);
        }
        x = told("post a 99 0 0;flow=minute;");
        is("minute 0", x.post(0, 5), 0);
        for (int grains = 1; grains <= 2; grains++) {
            SandGuards y = told("post a " + grains + " 0 0;flow=if minute<5 then 0 else above;");
            y.run(5);
            glass(y, 0, grains, 0);
            y.run(1);
            glass(y, 0, 0, grains);
            y.undo();
            y.undo();
            y.run(6);
            glass(y, 0, 0, grains);
        }
        x.run(4);
        is("minute 4", x.post(0, 5), 4);
        glass(x, 0, 99 - 1 - 2 - 3, 6);
    }

    private static void watch() {
        sentence("II: WATCH of a GUARD at a POST: how many minutes he has been there since he came.");
        SandGuards x = told(PAIR + "guard i;");
        is("now", x.guard(1, 2), 0);
        x.run(1);
        is("one", x.guard(1, 2), 1);
        x.run(1);
        is("he came to a", x.guard(1, 2), 1);
        is("i came to b", x.guard(2, 2), 1);
        is("0 in BED", x.guard(0, 2), 0);
        x.run(4);
        is("five", x.guard(1, 2), 5);
        x.run(1);
        is("i came to a", x.guard(2, 2), 1);
        is("h in BED", x.guard(1, 2), 0);
        is("who stays is not counted anew", told("post a 1 0 1;guard g at a;").run(7), 7);
    }

    private static void postAnswers() {
        sentence("6: Of a POST: what 0 .. 6 (2: -2: EMPTY; 6 may be -1, too)");
        SandGuards x = told("post a 5 7 9;post b 9 0 2;guard g at b;");
        int[] a = {5, 7, NOT, 0, 0, 5, 0};
        int[] b = {9, 0, 0, 0, 0, 2, 0};
        for (int what = 0; what <= 6; what++) {
            is("post(0, " + what + ")", x.post(0, what), a[what]);
            is("post(1, " + what + ")", x.post(1, what), b[what]);
        }
        x.dry(0, true);
        is("DRIED", x.post(0, 3), 1);
        is("not DRIED", x.post(1, 3), 0);
        x.pinch(0, -1);
        is("taken 1", x.post(0, 6), -1);
        x.pinch(0, -1);
        is("taken 2", x.post(0, 6), -2);
        x.pinch(0, 2);
        is("put in as many", x.post(0, 6), 0);
        x.pinch(0, 3);
        is("put in more", x.post(0, 6), 3);
        x.shake(0, 1);
        x.turn(0);
        is("shaken and turned are not put in", x.post(0, 6), 3);
        is("turned by hand is not by one who came", x.post(0, 4), 0);
    }

    private static void postRefused() {
        sentence("6: NONE for others");
        SandGuards x = told("post a 5 7 9;post b 9 0 2;");
        for (int what : new int[] {-1, 7, LEAST, GREATEST}) {
            is("post(0, " + what + ")", x.post(0, what), NONE);
        }
        for (int post : new int[] {-1, 2, 8, LEAST, GREATEST}) {
            for (int what = 0; what <= 6; what++) {
                is("post(" + post + ", " + what + ")", x.post(post, what), NONE);
            }
        }
    }

    private static void guardAnswers() {
        sentence("7: Of a GUARD: what 0 .. 4 (0: -2: in BED; 2: 0 in BED; 3: from 0 on; -2: at a POST)");
        SandGuards x = told("post a 5 7 1;guard f;guard g at a;guard h;");
        int[][] all = {{NOT, 0, 0, 0, 0}, {0, 0, 0, NOT, 0}, {NOT, 0, 0, 1, 0}};
        for (int guard = 0; guard < 3; guard++) {
            for (int what = 0; what <= 4; what++) {
                is("guard(" + guard + ", " + what + ")", x.guard(guard, what), all[guard][what]);
            }
        }
        x.run(3);
        is("slept", x.guard(0, 1), 3);
        is("slept", x.guard(1, 1), 0);
        is("watch", x.guard(1, 2), 3);
        is("watch in BED", x.guard(0, 2), 0);
        x = told(guards(12));
        for (int guard = 0; guard < 12; guard++) {
            is("place in BED", x.guard(guard, 3), guard);
        }
    }

    private static void guardRefused() {
        sentence("7: NONE for others");
        SandGuards x = told("post a 5 7 1;guard g at a;guard h;");
        for (int what : new int[] {-1, 5, LEAST, GREATEST}) {
            is("guard(0, " + what + ")", x.guard(0, what), NONE);
        }
        for (int guard : new int[] {-1, 2, 12, LEAST, GREATEST}) {
            for (int what = 0; what <= 4; what++) {
                is("guard(" + guard + ", " + what + ")", x.guard(guard, what), NONE);
            }
        }
    }

    private static void runMinutes() {
        sentence("8: n MINUTES (0 .. 2000; 0 is no thing done) go by: which it is");
        SandGuards x = told(RING);
        String before = state(x);
        is("run(0)", x.run(0), 0);
        same("run(0)", state(x), before);
        is("run(1)", x.run(1), 1);
        is("run(0)", x.run(0), 1);
        is("things done", x.count(9), 1);
        is("run(1999)", x.run(1999), 2000);
        is("run(2000)", x.run(2000), 4000);
        is("things done", x.count(9), 3);
        is("run(1)", x.run(1), 4001);
        // Many at once are as many one by one, an hour's end among them.
        String damp = RING + "damp 0 1;flow=neck-wet;";
        x = told(damp);
        SandGuards y = told(damp);
        x.run(130);
        for (int i = 0; i < 130; i++) {
            y.run(1);
        }
        same("130", sandAndGuards(x), sandAndGuards(y));
    }

    private static void runRefused() {
        sentence("8: NONE, and nothing happens: no such n");
        SandGuards x = told(RING);
        x.run(1);
        String before = state(x);
        for (int n : new int[] {-1, 2001, LEAST, GREATEST}) {
            is("run(" + n + ")", x.run(n), NONE);
            same("run(" + n + ")", state(x), before);
        }
    }

    private static void turned() {
        sentence("9: TURNED: true; false: no such POST; II: what is ABOVE and BELOW is exchanged");
        SandGuards x = told("post a 2 4 1;post b 0 7 1;post c 0 0 1;");
        is("turn(0)", x.turn(0), true);
        glass(x, 0, 4, 2);
        is("turn(0)", x.turn(0), true);
        glass(x, 0, 2, 4);
        is("turn(1)", x.turn(1), true);
        glass(x, 1, 7, 0);
        is("turn(2)", x.turn(2), true);
        glass(x, 2, 0, 0);
        is("things done", x.count(9), 4);
        String before = state(x);
        for (int post : new int[] {-1, 3, LEAST, GREATEST}) {
            is("turn(" + post + ")", x.turn(post), false);
            same("turn(" + post + ")", state(x), before);
        }
    }

    private static void shaken() {
        sentence("10: SHAKEN: how many went up; II: as many as n from BELOW to ABOVE (no more than there are)");
        int[][] cases = {{0, 0}, {1, 1}, {3, 3}, {4, 4}, {5, 4}, {9999, 4}, {GREATEST, 4}};
        for (int[] one : cases) {
            SandGuards x = told("post a 2 4 1;");
            is("shake(0, " + one[0] + ")", x.shake(0, one[0]), one[1]);
            glass(x, 0, 2 + one[1], 4 - one[1]);
            is("a thing done", x.count(9), 1);
        }
        SandGuards x = told("post a 2 0 1;");
        is("nothing below", x.shake(0, 5), 0);
        glass(x, 0, 2, 0);
        // The 9999 of a PINCH are none of SHAKEN.
        x = told("post a 1 1 1;");
        x.pinch(0, 9998);
        is("above 9999", x.shake(0, 1), 1);
        glass(x, 0, 10000, 0);
    }

    private static void shakeRefused() {
        sentence("10: NONE, and nothing happens: no such POST, n below 0");
        SandGuards x = told("post a 2 4 1;post b 2 4 1;");
        String before = state(x);
        for (int n : new int[] {-1, -4, LEAST}) {
            is("shake(0, " + n + ")", x.shake(0, n), NONE);
        }
        for (int post : new int[] {-1, 2, LEAST, GREATEST}) {
            is("shake(" + post + ", 1)", x.shake(post, 1), NONE);
            is("shake(" + post + ", 0)", x.shake(post, 0), NONE);
        }
        same("nothing", state(x), before);
    }

    private static void driedOrNot() {
        sentence("11: DRIED, or not any more: true; false: no such POST");
        SandGuards x = told("post a 2 4 1;post b 2 4 1;");
        is("off, as it is", x.dry(1, false), true);
        is("not DRIED", x.post(1, 3), 0);
        is("on", x.dry(1, true), true);
        is("DRIED", x.post(1, 3), 1);
        is("the other", x.post(0, 3), 0);
        is("on, as it is", x.dry(1, true), true);
        is("DRIED", x.post(1, 3), 1);
        is("off", x.dry(1, false), true);
        is("not DRIED", x.post(1, 3), 0);
        is("things done", x.count(9), 4);
        String before = state(x);
        for (int post : new int[] {-1, 2, LEAST, GREATEST}) {
            is("dry(" + post + ")", x.dry(post, true), false);
            is("dry(" + post + ")", x.dry(post, false), false);
        }
        same("nothing", state(x), before);
    }

    private static void pinched() {
        sentence("12: PINCH: grains ABOVE then; II: n grains are put in ABOVE (below 0: taken from there), 9999 at most ABOVE");
        SandGuards x = told("post a 5 4 1;");
        is("none", x.pinch(0, 0), 5);
        is("one", x.pinch(0, 1), 6);
        is("one taken", x.pinch(0, -1), 5);
        is("all taken", x.pinch(0, -5), 0);
        glass(x, 0, 0, 4);
        is("9998", x.pinch(0, 9998), 9998);
        is("9999", x.pinch(0, 1), 9999);
        is("none", x.pinch(0, 0), 9999);
        is("all taken", x.pinch(0, -9999), 0);
        is("9999 at once", x.pinch(0, 9999), 9999);
        is("things done", x.count(9), 9);
        is("by hand", x.post(0, 6), 9994);
        glass(x, 0, 9999, 4);
    }

    private static void pinchRefused() {
        sentence("12: NONE, and nothing happens: no such POST, below 0 or above 9999 then");
        SandGuards x = told("post a 5 4 1;post b 0 0 1;");
        x.pinch(1, 9999);
        String before = state(x);
        for (int n : new int[] {-6, -9999, 9995, 9999, LEAST, GREATEST}) {
            is("pinch(0, " + n + ")", x.pinch(0, n), NONE);
        }
        for (int n : new int[] {-10000, 1, LEAST, GREATEST}) {
            is("pinch(1, " + n + ")", x.pinch(1, n), NONE);
        }
        for (int post : new int[] {-1, 2, LEAST, GREATEST}) {
            is("pinch(" + post + ", 1)", x.pinch(post, 1), NONE);
        }
        same("nothing", state(x), before);
        is("9994 more", x.pinch(0, 9994), 9999);
        // More than 9999 are above by a shake: what is above 9999 then is refused, if it is less, too.
        x.turn(1);
        x.pinch(1, 9999);
        x.shake(1, 9999);
        is("above", x.post(1, 0), 19998);
        is("19997", x.pinch(1, -1), NONE);
        is("19998", x.pinch(1, 0), NONE);
        is("10000", x.pinch(1, -9998), NONE);
        is("9999", x.pinch(1, -9999), 9999);
    }

    private static void sent() {
        sentence("13: SENT: true; II: a GUARD in BED goes to an EMPTY POST");
        for (int guard = 0; guard < 3; guard++) {
            SandGuards x = told("post a 9 0 1;post b 9 0 1;guard g;guard h;guard i;guard j at a;");
            is("send", x.send(guard, 1), true);
            is("his post", x.guard(guard, 0), 1);
            is("who is there", x.post(1, 2), guard);
            is("his watch", x.guard(guard, 2), 0);
            is("his place in BED", x.guard(guard, 3), NOT);
            is("he did not go to BED", x.guard(guard, 4), 0);
            is("in BED", x.count(3), 2);
            int place = 0;
            for (int other = 0; other < 3; other++) {
                if (other != guard) {
                    is("place of " + other, x.guard(other, 3), place++);
                }
            }
            is("none is EMPTY", x.count(4), 0);
            is("a thing done", x.count(9), 1);
        }
    }

    private static void sendRefused() {
        sentence("13: false, and nothing happens: he is not in BED, the POST is not EMPTY, no such ones");
        SandGuards x = told("post a 9 0 1;post b 9 0 1;post c 9 0 1;guard g;guard h at a;");
        String before = state(x);
        is("not in BED", x.send(1, 1), false);
        is("not in BED, his own post", x.send(1, 0), false);
        is("not EMPTY", x.send(0, 0), false);
        for (int odd : new int[] {-1, -2, 12, LEAST, GREATEST}) {
            is("guard " + odd, x.send(odd, 1), false);
            is("post " + odd, x.send(0, odd), false);
        }
        is("guard 2", x.send(2, 1), false);
        is("post 3", x.send(0, 3), false);
        same("nothing", state(x), before);
        is("the last post", x.send(0, 2), true);
        is("no more in BED", x.send(0, 1), false);
    }

    private static void undoEach() {
        sentence("14: The last thing done (run, turn, shake, dry, pinch, send) is undone: true");
        SandGuards x = told("post a 3 2 1;post b 5 0 2;post c 1 4 1;guard g at a;guard h;guard i at c;flow=neck+wet;damp 1;");
        String[] states = new String[7];
        for (int thing = 0; thing < 6; thing++) {
            states[thing] = sandAndGuards(x) + x.count(2);
            switch (thing) {
                case 0: x.send(1, 1); break;
                case 1: x.turn(0); break;
                case 2: x.shake(0, 2); break;
                case 3: x.dry(2, true); break;
                case 4: x.pinch(1, 7); break;
                default: x.run(9); break;
            }
            is("things", x.count(9), thing + 1);
        }
        for (int thing = 5; thing >= 0; thing--) {
            is("undo", x.undo(), true);
            same("thing " + thing, sandAndGuards(x) + x.count(2), states[thing]);
            is("things", x.count(9), thing);
        }
        is("none", x.undo(), false);
    }

    private static void undoForty() {
        sentence("14: the last 40 can be");
        for (int things = 39; things <= 42; things++) {
            SandGuards x = told("post a 0 0 1;");
            for (int i = 1; i <= things; i++) {
                x.pinch(0, 1);
            }
            is("things of " + things, x.count(9), Math.min(things, 40));
            for (int i = 1; i <= Math.min(things, 40); i++) {
                is("undo " + i, x.undo(), true);
                is("above", x.post(0, 0), things - i);
            }
            is("no more of " + things, x.undo(), false);
            is("above", x.post(0, 0), Math.max(0, things - 40));
            is("things", x.count(9), 0);
        }
    }

    private static void undoAround() {
        sentence("14: the last 40 can be: what is done behind what was undone");
        SandGuards x = told("post a 0 0 1;");
        for (int i = 0; i < 30; i++) {
            x.pinch(0, 1);
        }
        for (int i = 0; i < 20; i++) {
            x.undo();
        }
        is("10 are left", x.count(9), 10);
        for (int i = 0; i < 35; i++) {
            x.pinch(0, 100);
        }
        is("40", x.count(9), 40);
        for (int i = 1; i <= 35; i++) {
            is("undo", x.undo(), true);
            is("above", x.post(0, 0), 10 + 100 * (35 - i));
        }
        for (int i = 1; i <= 5; i++) {
            is("undo", x.undo(), true);
            is("above", x.post(0, 0), 10 - i);
        }
        is("no more", x.undo(), false);
        is("above", x.post(0, 0), 5);
    }

    private static void undoNone() {
        sentence("14: false: there is none");
        SandGuards x = told(RING);
        is("at first", x.undo(), false);
        x.turn(3);
        x.shake(0, -1);
        x.dry(3, true);
        x.pinch(0, -4);
        x.send(3, 0);
        x.run(0);
        x.run(2001);
        x.tell(0, 0);
        x.forget();
        x.hold(0);
        x.feed(0, 0, 0, 0, 0);
        x.back(20);
        x.out(0);
        x.slept();
        x.dryFirst(0);
        x.dryTwo(0);
        x.bribe(0, 1);
        x.weak(1, 0);
        x.never(1);
        x.spread(1);
        x.shakeWorst(1, 0);
        x.longest(1);
        x.rests(1, 1, NONE);
        x.where(0, 1);
        x.tampered(1, 0, NONE);
        is("these are no things done", x.count(9), 0);
        is("none", x.undo(), false);
        x.turn(0);
        is("one", x.undo(), true);
        is("an undo is no thing done", x.undo(), false);
        x.turn(0);
        x.restore(0);
        is("behind a restore", x.undo(), false);
        x.turn(0);
        x.read();
        is("behind a read", x.undo(), false);
    }
}
