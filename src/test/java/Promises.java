/** For each promise of the document: ordinary inputs, the edges it names, wrong inputs. */
public final class Promises {
    private static final int NONE = SandGuards.NONE;
    private static final int NOT = -2;
    private static final int[] ODD = {-1, -2, -3, Integer.MIN_VALUE, Integer.MAX_VALUE};
    /** Three posts in a ring, one guard in bed; the document's rules give what the comments in the tests say. */
    private static final String RING =
        "post a 3 0 1; post b 5 0 2; post c 2 4 1; guard x at a; guard y at b; guard z at c; guard w; sleep 2;";
    private static int wrong = 0;

    public static void main(String[] args) {
        newObject();
        feedAndBack();
        readsTokens();
        readsSyntax();
        readsRoom();
        readsSlips();
        readReplaces();
        posts();
        flows();
        damp();
        guards();
        runs();
        rings();
        hands();
        sends();
        undoes();
        outs();
        sleeps();
        dryings();
        bribes();
        weak();
        neverAndSpread();
        shakeWorst();
        longest();
        rests();
        where();
        tampered();
        slots();
        counts();
        asked();
        oddArguments();
        System.out.println(wrong == 0 ? "all promises hold" : wrong + " answers are not as due");
        if (wrong != 0) {
            System.exit(1);
        }
    }

    private static void is(String what, int got, int want) {
        if (got != want) {
            wrong++;
            System.out.println(what + " answered " + got + ", due is " + want);
        }
    }

    private static void is(String what, boolean got, boolean want) {
        is(what, got ? 1 : 0, want ? 1 : 0);
    }

    /** Puts a text on the tape, byte by byte as it stands. */
    private static void put(SandGuards x, String text) {
        for (int at = 0; at < text.length(); at += 20) {
            int[] words = new int[5];
            for (int i = 0; i < 20; i++) {
                int sign = at + i < text.length() ? text.charAt(at + i) : ' ';
                words[i / 4] = words[i / 4] << 8 | sign;
            }
            x.feed(words[0], words[1], words[2], words[3], words[4]);
        }
        x.back((20 - text.length() % 20) % 20);
    }

    private static SandGuards told(String text) {
        SandGuards x = new SandGuards();
        put(x, text);
        is("read() of " + text, x.read(), 0);
        is("place() of " + text, x.place(), NONE);
        return x;
    }

    private static void fault(String text, int number, int place) {
        SandGuards x = new SandGuards();
        put(x, text);
        is("bytes of " + text, x.count(8), text.length());
        is("read() of " + text, x.read(), number);
        is("place() of " + text, x.place(), number == 0 ? NONE : place);
    }

    private static void glass(SandGuards x, int post, int above, int below) {
        is("above " + post, x.post(post, 0), above);
        is("below " + post, x.post(post, 1), below);
    }

    private static String times(String text, int n) {
        return text.repeat(n);
    }

    private static void newObject() {
        SandGuards x = new SandGuards();
        int[] counts = {0, 0, 0, 0, 0, 60, 0, 0, 0, 0, 0, 0, 0};
        for (int what = 0; what < counts.length; what++) {
            is("new count(" + what + ")", x.count(what), counts[what]);
        }
        is("new place()", x.place(), NONE);
        is("new undo()", x.undo(), false);
        is("NONE", NONE, -1);
        is("new forget()", x.forget(), 0);
        is("new where", x.where(0, 0), NONE);
        is("new tampered", x.tampered(1, 0, 0), NONE);
        is("new hold", x.hold(0), true);
        is("new restore", x.restore(0), true);
    }

    private static void feedAndBack() {
        SandGuards x = new SandGuards();
        is("back(1) of nothing", x.back(1), NONE);
        is("back(0) of nothing", x.back(0), 0);
        for (int i = 1; i <= 100; i++) {
            is("feed " + i, x.feed(0x20202020, 0x20202020, 0x20202020, 0x20202020, 0x20202020), 20 * i);
        }
        is("feed beyond", x.feed(0, 0, 0, 0, 0), NONE);
        is("bytes", x.count(8), 2000);
        is("back(19)", x.back(19), 1981);
        is("feed beyond", x.feed(0, 0, 0, 0, 0), NONE);
        is("back(-1)", x.back(-1), NONE);
        is("back(1982)", x.back(1982), NONE);
        is("back(1)", x.back(1), 1980);
        is("feed to the brim", x.feed(0x20202020, 0x20202020, 0x20202020, 0x20202020, 0x736c6565), 2000);
        is("read: the last four bytes are 'slee'", x.read(), 1);
        is("place", x.place(), 1996);
        is("tape is empty", x.count(8), 0);
        is("back(1) of nothing", x.back(1), NONE);
        // "sleep 7;" with the highest byte of a first
        is("feed", x.feed(0x736c6565, 0x70203720, 0x3b202020, 0x20202020, 0x20202020), 20);
        is("read", x.read(), 0);
        is("sleep", x.count(5), 7);
    }

    private static void readsTokens() {
        fault("", 0, 0);
        fault(" \t\n\r", 0, 0);
        fault("post a 1 2 3;", 0, 0);
        fault("\tpost\na\r1 2 3 ;  ", 0, 0);
        fault("post a1 2 3;guard b;", 0, 0);
        fault("damp 1 2;", 0, 0);
        fault("damp;sleep 0;", 0, 0);
        fault("post abcdefgh 1 2 3;", 0, 0);
        fault("post abcdefghi 1 2 3;", 1, 5);
        fault("post a 0999 0000 0099;", 0, 0);
        fault("post a 00999 0 9;", 1, 7);
        fault("posta 1 2 3;", 1, 0);
        fault("Post a 1 2 3;", 1, 0);
        fault("post aB 1 2 3;", 1, 6);
        fault("post a 1 2 3;" + (char) 200, 1, 13);
        fault("post a 1 2 3;" + (char) 0, 1, 13);
        fault("post a 1 2 3;" + (char) 11, 1, 13);
        fault("post a 1 2 3;" + (char) 160, 1, 13);
        fault("post a 1 2 3. ", 1, 12);
        for (String word : new String[] {"post", "guard", "at", "flow", "if", "then", "else", "damp", "sleep", "neck", "wet",
            "above", "below", "minute"}) {
            fault("guard " + word + ";", 1, 6);
            fault("guard " + word + "x;", 0, 0);
        }
    }

    private static void readsSyntax() {
        fault("post", 1, 4);
        fault("post ", 1, 5);
        fault("post a 1 2 3", 1, 12);
        fault("post a 1 2 3  ", 1, 14);
        fault("post a 1 2;", 1, 10);
        fault("post a 1 2 3 4;", 1, 13);
        fault("post 1 1 2 3;", 1, 5);
        fault(";", 1, 0);
        fault("guard x at;", 1, 10);
        fault("guard x a;", 1, 8);
        fault("guard x at a b;", 1, 13);
        fault("sleep;", 1, 5);
        fault("sleep 1 2;", 1, 8);
        fault("damp 1 a;", 1, 7);
        fault("flow 1;", 1, 5);
        fault("flow = ;", 1, 7);
        fault("flow = 1 2;", 1, 9);
        fault("flow = x;", 1, 7);
        fault("flow = (1;", 1, 9);
        fault("flow = 1);", 1, 8);
        fault("flow = ();", 1, 8);
        fault("flow = 1 + ;", 1, 11);
        fault("flow = -1;", 1, 7);
        fault("flow = 1 < 2;", 1, 9);
        fault("flow = if 1 then 2 else 3;", 1, 12);
        fault("flow = if 1 < 2 < 3 then 2 else 3;", 1, 16);
        fault("flow = if 1 < 2 then 3;", 1, 22);
        fault("flow = if 1 < 2 then 3 else;", 1, 27);
        fault("flow = if (1 < 2) then 3 else 4;", 1, 13);
        fault("flow = (if 1 < 2 then 3 else 4);", 1, 8);
        fault("flow = guard;", 1, 7);
        fault("flow = neck wet;", 1, 12);
        fault("flow = (1 + 2) * (3 - neck / wet) + above * below - minute + post;", 0, 0);
    }

    private static void readsRoom() {
        String posts = "";
        String guards = "";
        for (int i = 0; i < 8; i++) {
            posts += "post p" + (char) ('a' + i) + " 1 1 1;";
        }
        for (int i = 0; i < 12; i++) {
            guards += "guard g" + (char) ('a' + i) + ";";
        }
        fault(posts + guards, 0, 0);
        fault(posts + guards + "post x 1 1 1;", 2, (posts + guards).length());
        fault(posts + " post 5", 2, posts.length() + 1);
        fault(guards + posts + "guard x;", 2, (guards + posts).length());
        fault(guards + " guard;", 2, guards.length() + 1);
        String damp = "damp" + times(" 1", 24);
        fault(damp + ";" + damp + ";", 0, 0);
        fault(damp + " 2;", 2, damp.length() + 1);
        fault(damp + " 100;", 2, damp.length() + 1);
        fault(damp + " x;", 1, damp.length() + 1);
        String ifs = "flow = " + times("if 1 < 2 then 3 else ", 4);
        fault(ifs + "5;", 0, 0);
        fault(ifs + "5;" + ifs + "5;", 0, 0);
        fault(ifs + "if", 2, ifs.length());
        fault("flow = ((((((1))))));", 0, 0);
        fault("flow = ((((((1)))))) + ((((((1)))))) * (2);", 0, 0);
        fault("flow = (((((((1)))))));", 2, 13);
        fault("flow = ((((((1 + (2)))))));", 2, 17);
        fault("flow = ((((((1 + 2 ( ", 1, 19);
        // flow, =, 1, 198 times + 1, ; : 400 TOKENS
        String full = "flow=1" + times("+1", 198) + ";";
        fault(full, 0, 0);
        fault(full + "  ", 0, 0);
        fault(full + " sleep 1;", 2, full.length() + 1);
        fault(full + " 1", 1, full.length() + 1);
        fault(full + " 12345", 1, full.length() + 1);
        fault("flow=1" + times("+1", 199) + ";", 2, 5 + 2 * 199);
        fault("sleep 1;flow=1" + times("+1", 197) + "+", 2, 14 + 2 * 197);
        fault("flow=1" + times("+1", 198) + "+", 1, 7 + 2 * 198);
        fault("flow=1" + times("+1", 198) + "<", 1, 6 + 2 * 198);
        fault("flow=1" + times("+1", 198), 1, 6 + 2 * 198);
        // the first by its place
        fault(damp + " 2; x", 2, damp.length() + 1);
        fault("x " + damp + " 2;", 1, 0);
    }

    private static void readsSlips() {
        fault("post a 1 1 1;post a 1 1 1;", 3, 18);
        fault("post a 1 1 1;guard a;", 3, 19);
        fault("guard a;post a 1 1 1;", 3, 13);
        fault("guard a;guard b;guard a;", 3, 22);
        fault("post a 1 1 1;guard x at a;guard y at a;", 3, 37);
        fault("guard x at a;post a 1 1 1;", 4, 11);
        fault("guard x;guard y at x;", 4, 19);
        fault("guard x at x;", 4, 11);
        fault("post a 1000 1 1;", 5, 7);
        fault("post a 999 1000 1;", 5, 11);
        fault("post a 999 999 100;", 5, 15);
        fault("post a 999 999 99;", 0, 0);
        fault("damp 99 0 100;", 5, 10);
        fault("damp 100;damp 1;", 5, 5);
        fault("sleep 9999;flow = 9999;", 0, 0);
        fault("post a 1000 1 1;post a 1 1 1;", 5, 7);
        fault("post a 1 1 1;post a 1000 1 1;", 3, 18);
        fault("guard x at q;guard x;", 4, 11);
        fault("post a 1000 1 1;guard x at b;", 5, 7);
        fault("post a 1000 1 1; x", 1, 17);
        fault("guard x at a;" + "damp" + times(" 1", 25) + ";", 2, 13 + 4 + 24 * 2 + 1);
    }

    private static void readReplaces() {
        SandGuards x = told(RING);
        x.run(3);
        x.dry(1, true);
        x.tell(0, 3);
        x.hold(1);
        put(x, "post a 1 1");
        is("fault", x.read(), 1);
        is("place", x.place(), 10);
        is("tape", x.count(8), 0);
        is("minute stays", x.count(2), 3);
        is("undo stays", x.count(9), 2);
        is("told stays", x.count(10), 1);
        is("slot stays", x.count(11), 1);
        is("sleep stays", x.count(5), 2);
        put(x, "sleep 7; damp 100;");
        is("fault", x.read(), 5);
        is("place", x.place(), 14);
        is("sleep stays", x.count(5), 2);
        is("dried stays", x.post(1, 3), 1);
        put(x, "post q 7 8 9; guard r; damp 1 2 3; damp 4; sleep 5; sleep 6; flow = 1; flow = 3;");
        is("well", x.read(), 0);
        is("place", x.place(), NONE);
        int[] counts = {1, 1, 0, 1, 1, 6, 1, 15, 0, 0, 0, 0, 0};
        for (int what = 0; what < counts.length; what++) {
            is("count(" + what + ") of the next text", x.count(what), counts[what]);
        }
        is("the last flow", x.post(0, 5), 3);
        is("not dried", x.post(0, 3), 0);
        is("restore", x.restore(1), false);
        is("undo", x.undo(), false);
        is("empty text", x.read(), 0);
        is("no posts", x.count(0), 0);
        is("sleep is 60 again", x.count(5), 60);
        is("no damp", x.count(6), 0);
    }

    private static void posts() {
        SandGuards x = told(RING);
        glass(x, 0, 3, 0);
        glass(x, 1, 5, 0);
        glass(x, 2, 2, 4);
        for (int post = 0; post < 3; post++) {
            is("guard there", x.post(post, 2), post);
            is("dried", x.post(post, 3), 0);
            is("turned", x.post(post, 4), 0);
            is("by hand", x.post(post, 6), 0);
        }
        is("flow", x.post(1, 5), 2);
        is("flow held", told("post a 3 0 9;").post(0, 5), 3);
        is("empty", told("post a 3 0 9;").post(0, 2), NOT);
        is("what 7", x.post(0, 7), NONE);
        is("what -1", x.post(0, -1), NONE);
        is("no post", x.post(3, 0), NONE);
        is("no post", x.post(-1, 0), NONE);
        x.pinch(0, -1);
        is("by hand -1", x.post(0, 6), -1);
    }

    /** FLOW of the only post, 500 grains above and 40 below, neck 7. */
    private static void flow(String law, int want) {
        is(law, told("post a 500 40 7; flow = " + law + ";").post(0, 5), want);
    }

    private static void flows() {
        flow("neck", 7);
        flow("above", 500);
        flow("below", 40);
        flow("wet + minute + post", 0);
        flow("above - below * 2 - neck", 413);
        flow("2 + 3 * 4 - 10 / 4", 12);
        flow("(2 + 3) * 4", 20);
        flow("100 - 10 - 20 - 30", 40);
        flow("400 / 10 / 4", 10);
        flow("400 / 10 * 4", 160);
        flow("100 - (10 - 20)", 110);
        flow("1 + 2 * (3 + 4 * (5 + 6))", 95);
        flow("((((((neck))))))", 7);
        flow(times("1 + 2 * (", 6) + "1 + 2 * post" + times(")", 6), 127);
        flow("9999", 500);
        flow("0 - 5", 0);
        flow("10 + (0 - 7) / 2", 7);
        flow("10 - 7 / (0 - 2)", 13);
        flow("1 / 0", 0);
        flow("5 + 0 * (1 / (neck - 7))", 0);
        flow("5 + 1 / (neck - 6)", 6);
        flow("if 1 < 2 then 3 else 4", 3);
        flow("if 2 < 2 then 3 else 4", 4);
        flow("if 3 < 2 then 3 else if neck < 8 then 5 else 6", 5);
        flow("if 3 < 2 then 3 else if neck < 7 then 5 else 6", 6);
        flow("if 1 < 2 then 3 else if 1 < 2 then 4 else 5", 3);
        flow("if 1 < 2 then 3 else 1 / 0", 3);
        flow("if 2 < 1 then 1 / 0 else 4", 4);
        flow("if 1 < 2 then 1 / 0 else 4", 0);
        flow("if 1 / 0 < 2 then 3 else 4", 0);
        flow("if 1 < 2 / 0 then 3 else 4", 0);
        flow("if 2 < 1 then 3 else if 1 / 0 < 2 then 3 else 4", 0);
        flow("if 2 < 1 then 3 else 4 / 0", 0);
        // 9999 * 9999 * 100 = 9998000100, less 2 * 2^32 = 1408065508
        flow("9999 * 9999 * 100 / 9999 / 999", 140);
        // 2^31 wraps to the least int; divided by -1 it stays there, and less 1 it is the greatest
        flow("if 8192 * 8 * 8192 * 4 < 0 then 11 else 12", 11);
        flow("if (8192 * 8 * 8192 * 4) / (0 - 1) < 0 then 11 else 12", 11);
        flow("if (8192 * 8 * 8192 * 4) - 1 < 0 then 11 else 12", 12);
        SandGuards x = told("post a 50 0 1; post b 50 0 1; flow = post + minute;");
        is("post in the law", x.post(1, 5), 1);
        x.run(3);
        is("minute in the law", x.post(0, 5), 3);
        glass(x, 0, 47, 3);
        glass(x, 1, 44, 6);
        // above and below as the minute begins: 8 runs 4, 4 runs 2, 2 runs 1, 1 runs 0
        x = told("post a 8 0 1; flow = above / 2;");
        x.run(1);
        glass(x, 0, 4, 4);
        x.run(2);
        glass(x, 0, 1, 7);
        x.run(1);
        glass(x, 0, 1, 7);
    }

    private static void damp() {
        SandGuards x = told("post a 999 0 9; flow = wet; damp 3 0 5;");
        is("wet at 0", x.post(0, 5), 3);
        x.run(59);
        is("wet at 59", x.post(0, 5), 3);
        x.run(1);
        is("wet at 60", x.post(0, 5), 0);
        x.run(60);
        is("wet at 120", x.post(0, 5), 5);
        x.run(60);
        is("wet at 180", x.post(0, 5), 3);
        glass(x, 0, 999 - 180 - 300, 480);
        x.dry(0, true);
        is("wet of a dried post", x.post(0, 5), 0);
        x.run(10);
        glass(x, 0, 519, 480);
        x.dry(0, false);
        is("wet again", x.post(0, 5), 3);
        is("no damp", told("post a 9 0 9; flow = wet;").post(0, 5), 0);
        is("no damp in the last row", told("post a 9 0 9; damp 1; flow = wet; damp;").post(0, 5), 0);
        x = told("post a 999 0 9; flow = wet; damp 3 1;");
        x.run(200);
        glass(x, 0, 999 - 180 - 60 - 180 - 20, 440);
        x = told("post a 999 0 9; flow = wet; damp 3;");
        x.run(200);
        glass(x, 0, 399, 600);
        String day = "damp";
        for (int hour = 0; hour < 24; hour++) {
            day += " " + hour;
        }
        x = told("post a 999 0 9; flow = wet;" + day + ";");
        x.run(1439);
        x.turn(0);
        is("hour 23 runs out", x.post(0, 5), Math.min(23, x.post(0, 0)));
        x.run(1);
        is("hour 0 of the next day", x.post(0, 5), 0);
    }

    private static void guards() {
        SandGuards x = told(RING);
        is("post", x.guard(1, 0), 1);
        is("in bed", x.guard(3, 0), NOT);
        is("place in bed", x.guard(3, 3), 0);
        is("not in bed", x.guard(0, 3), NOT);
        is("what 5", x.guard(0, 5), NONE);
        is("what -1", x.guard(0, -1), NONE);
        is("no guard", x.guard(4, 0), NONE);
        is("no guard", x.guard(-1, 0), NONE);
        x.run(1);
        is("slept", x.guard(3, 1), 1);
        is("slept", x.guard(0, 1), 0);
        is("watch", x.guard(0, 2), 1);
        is("watch in bed", x.guard(3, 2), 0);
        x = told("guard a; guard b; guard c;");
        is("bed as they stand", x.guard(2, 3), 2);
        is("bed as they stand", x.guard(0, 3), 0);
        is("all in bed", x.count(3), 3);
        x.run(7);
        is("slept without posts", x.guard(1, 1), 7);
        is("they lay there from the first", x.guard(1, 4), 0);
    }

    private static void runs() {
        SandGuards x = new SandGuards();
        is("run(0)", x.run(0), 0);
        is("no thing done", x.count(9), 0);
        is("run(2000)", x.run(2000), 2000);
        is("run(2001)", x.run(2001), NONE);
        is("run(-1)", x.run(-1), NONE);
        is("minute", x.count(2), 2000);
        is("run(1)", x.run(1), 2001);
        is("things done", x.count(9), 2);
        // One post: the one ahead of it is itself, and nobody comes.
        x = told("post a 2 0 1; guard g at a; guard h;");
        x.run(5);
        glass(x, 0, 0, 2);
        is("he stays", x.post(0, 2), 0);
        is("watch", x.guard(0, 2), 5);
        is("never turned", x.post(0, 4), 0);
        // A glass with nothing in it is turned all the same, each minute.
        x = told("post a 0 0 1; post b 9 0 0; guard g at a; guard h at b; guard i; guard j;");
        x.run(1);
        is("h came", x.post(0, 2), 1);
        is("turned", x.post(0, 4), 1);
        is("i went to b", x.post(1, 2), 2);
        is("g lies behind j", x.guard(0, 3), 1);
        is("g went to bed", x.guard(0, 4), 1);
        x.run(1);
        is("i came", x.post(0, 2), 2);
        is("j went to b", x.post(1, 2), 3);
        is("turned", x.post(0, 4), 2);
        is("h lies behind g", x.guard(1, 3), 1);
        // Without one in bed the post that was left is EMPTY, and he who was sent to bed fills it at the end.
        x = told("post a 1 4 1; post b 9 0 0; post c 9 0 0; guard g at a; guard h at c;");
        x.run(1);
        glass(x, 0, 5, 0);
        is("h came to a", x.post(0, 2), 1);
        is("g fills b, the first that is EMPTY", x.post(1, 2), 0);
        is("c is EMPTY", x.post(2, 2), NOT);
        is("g went to bed", x.guard(0, 4), 1);
        is("and has not slept", x.guard(0, 1), 0);
        is("g's watch", x.guard(0, 2), 1);
    }

    private static void rings() {
        SandGuards x = told(RING);
        // Minute 0: a 2/1, b 3/2, c 1/5; minute 1: c is out: y comes from b, w from BED to b, z to BED.
        x.run(2);
        is("y at c", x.post(2, 2), 1);
        is("w at b", x.post(1, 2), 3);
        is("z in bed", x.guard(2, 0), NOT);
        glass(x, 2, 6, 0);
        is("c turned", x.post(2, 4), 1);
        // Minute 2: a is out: y comes from c, z to c, x to BED; b is out: y comes on from a, x to a, w to BED.
        x.run(1);
        is("x at a", x.post(0, 2), 0);
        is("y at b", x.post(1, 2), 1);
        is("z at c", x.post(2, 2), 2);
        is("w in bed", x.guard(3, 3), 0);
        is("x went to bed", x.guard(0, 4), 1);
        is("x slept", x.guard(0, 1), 0);
        is("w slept: minute 0 and minute 2", x.guard(3, 1), 2);
        is("y's watch", x.guard(1, 2), 1);
        glass(x, 0, 3, 0);
        glass(x, 1, 5, 0);
        glass(x, 2, 5, 1);
    }

    private static void hands() {
        SandGuards x = told(RING);
        is("turn(2)", x.turn(2), true);
        glass(x, 2, 4, 2);
        is("not by one who came", x.post(2, 4), 0);
        is("turn(3)", x.turn(3), false);
        is("turn(-1)", x.turn(-1), false);
        is("shake(2, 1)", x.shake(2, 1), 1);
        glass(x, 2, 5, 1);
        is("shake(2, 2)", x.shake(2, 2), 1);
        glass(x, 2, 6, 0);
        is("shake(2, 0)", x.shake(2, 0), 0);
        is("shake by -1", x.shake(2, -1), NONE);
        is("shake(3, 1)", x.shake(3, 1), NONE);
        is("shake much", x.shake(0, Integer.MAX_VALUE), 0);
        is("things done", x.count(9), 5);
        is("dry(1)", x.dry(1, true), true);
        is("dried", x.post(1, 3), 1);
        is("dry(1)", x.dry(1, true), true);
        is("dry(1) off", x.dry(1, false), true);
        is("dried", x.post(1, 3), 0);
        is("dry(3)", x.dry(3, true), false);
        is("things done", x.count(9), 8);
        is("pinch(0, 4)", x.pinch(0, 4), 7);
        is("pinch(0, -7)", x.pinch(0, -7), 0);
        is("by hand", x.post(0, 6), -3);
        is("pinch(0, -1)", x.pinch(0, -1), NONE);
        is("pinch(0, 10000)", x.pinch(0, 10000), NONE);
        is("pinch(0, least)", x.pinch(0, Integer.MIN_VALUE), NONE);
        is("pinch(1, greatest)", x.pinch(1, Integer.MAX_VALUE), NONE);
        is("pinch(0, 9999)", x.pinch(0, 9999), 9999);
        is("pinch(0, 1)", x.pinch(0, 1), NONE);
        is("pinch(0, 0)", x.pinch(0, 0), 9999);
        is("pinch(3, 1)", x.pinch(3, 1), NONE);
        is("by hand", x.post(0, 6), 9996);
        is("things done", x.count(9), 12);
        is("grains", x.count(7), 9999 + 5 + 6);
        // SHAKEN has no such bound: 9999 below and 9999 above
        x.turn(0);
        x.pinch(0, 9999);
        is("shake all", x.shake(0, 9999), 9999);
        glass(x, 0, 19998, 0);
        is("still above 9999", x.pinch(0, -1), NONE);
        is("down to 9999", x.pinch(0, -9999), 9999);
    }

    private static void sends() {
        SandGuards x = told("post a 9 0 1; post b 9 0 1; guard g; guard h; guard i; guard j at a;");
        is("to one who is there", x.send(0, 0), false);
        is("who is at a post", x.send(3, 1), false);
        is("no post", x.send(0, 2), false);
        is("no post", x.send(0, -1), false);
        is("no guard", x.send(4, 1), false);
        is("no guard", x.send(-1, 1), false);
        is("nothing happened", x.count(9), 0);
        is("the middle one", x.send(1, 1), true);
        is("there", x.post(1, 2), 1);
        is("he", x.guard(1, 0), 1);
        is("g's place", x.guard(0, 3), 0);
        is("i's place", x.guard(2, 3), 1);
        is("watch", x.guard(1, 2), 0);
        is("in bed", x.count(3), 2);
        is("not EMPTY now", x.send(0, 1), false);
        is("did not go to bed", x.guard(1, 4), 0);
        x.run(2);
        is("watch", x.guard(1, 2), 2);
    }

    private static void undoes() {
        SandGuards x = told(RING);
        x.run(3);
        x.turn(0);
        x.shake(0, 1);
        x.dry(0, true);
        x.pinch(0, 5);
        is("five", x.count(9), 5);
        is("undo pinch", x.undo(), true);
        is("by hand", x.post(0, 6), 0);
        is("undo dry", x.undo(), true);
        is("dried", x.post(0, 3), 0);
        is("undo shake", x.undo(), true);
        glass(x, 0, 0, 3);
        is("undo turn", x.undo(), true);
        glass(x, 0, 3, 0);
        is("undo run", x.undo(), true);
        is("minute", x.count(2), 0);
        is("x went to bed", x.guard(0, 4), 0);
        is("c turned", x.post(2, 4), 0);
        is("slept", x.guard(3, 1), 0);
        is("watch", x.guard(1, 2), 0);
        is("bed", x.guard(3, 3), 0);
        glass(x, 2, 2, 4);
        is("none left", x.undo(), false);
        for (int i = 1; i <= 45; i++) {
            x.pinch(0, 1);
            is("things", x.count(9), Math.min(i, 40));
        }
        for (int i = 1; i <= 40; i++) {
            is("undo " + i, x.undo(), true);
            is("above", x.post(0, 0), 48 - i);
        }
        is("undo 41", x.undo(), false);
        is("above", x.post(0, 0), 8);
        x.turn(9);
        x.pinch(0, -100);
        x.run(2001);
        x.run(0);
        x.send(0, 0);
        x.tell(0, 1);
        x.hold(0);
        is("these are no things done", x.count(9), 0);
        x = told("post a 1 0 1; guard g;");
        x.send(0, 0);
        is("undo send", x.undo(), true);
        is("in bed", x.guard(0, 3), 0);
        is("EMPTY", x.post(0, 2), NOT);
    }

    private static void outs() {
        SandGuards x = told(RING);
        is("a", x.out(0), 3);
        is("b", x.out(1), 3);
        is("c", x.out(2), 2);
        is("no post", x.out(3), NONE);
        is("no post", x.out(-1), NONE);
        x.run(2);
        is("c was turned", x.out(2), 6);
        is("nothing above", told("post a 0 9 1;").out(0), 0);
        is("2000", told("post a 999 0 1; flow = if minute < 1001 then 0 else 1;").out(0), 2000);
        is("2001", told("post a 999 0 1; flow = if minute < 1002 then 0 else 1;").out(0), NOT);
        is("never", told("post a 1 0 0;").out(0), NOT);
        is("nothing happens", x.count(2), 2);
        // 180 grains in the second hour, the other 20 in the fourth
        is("damp", told("post a 200 0 1; flow = wet; damp 0 3;").out(0), 180 + 7);
        x = told("post a 100 0 1; damp 1 0; flow = wet;");
        x.run(30);
        is("two days", x.out(0), 30 + 60 + 40);
    }

    private static void sleeps() {
        is("no guards", new SandGuards().slept(), 0);
        is("sleep 0", told("post a 1 0 1; guard g at a; sleep 0;").slept(), 0);
        is("in bed without posts", told("guard g; guard h;").slept(), 60);
        is("3000", told("guard g; sleep 3000;").slept(), 3000);
        is("3001", told("guard g; sleep 3001;").slept(), NOT);
        is("one never sleeps", told("post a 1 0 1; guard g at a; guard h;").slept(), NOT);
        SandGuards x = told("guard g; sleep 3001;");
        x.run(1);
        is("in all", x.slept(), 3000);
        x.run(2000);
        x.run(2000);
        is("now", x.slept(), 0);
        // g and h at a and b, i in BED. Each glass of 0/0 turns each minute: at a comes h, i to b, g to BED; at b comes
        // h from a, g to a, i to BED: h stays at b, i lies first: minute 1 as minute 0. Only i sleeps.
        x = told("post a 0 0 1; post b 0 0 1; guard g at a; guard h at b; guard i; sleep 1;");
        is("two never sleep", x.slept(), NOT);
        x.run(1);
        is("h at b", x.post(1, 2), 1);
        is("g at a", x.post(0, 2), 0);
        is("i slept", x.guard(2, 1), 1);
        // Of a alone each minute: h comes, i to b, g to BED; i comes, g to b, h to BED; g comes, h to b, i to BED.
        x = told("post a 0 0 1; post b 1 0 0; guard g at a; guard h at b; guard i; sleep 1;");
        is("each in turn", x.slept(), 3);
        is("nothing happens", x.count(2), 0);
    }

    private static void dryings() {
        // wet stops the sand: a runs only where it is dried. Out of a every 2 minutes one goes to BED.
        String two = "post a 2 0 1; post b 2 0 1; guard g at a; guard h at b; guard i; damp 1; flow = neck - wet; sleep 3;";
        SandGuards x = told(two);
        is("as it is", x.slept(), NOT);
        int a = byHand(two, 0, NONE);
        int b = byHand(two, 1, NONE);
        is("alike by hand", a == b, true);
        is("the first", x.dryFirst(0), 0);
        is("minutes", x.dryFirst(1), a);
        is("pair", x.dryTwo(0), byHand(two, 0, 1) == NOT ? NOT : 1);
        is("minutes", x.dryTwo(1), byHand(two, 0, 1));
        is("what 2", x.dryFirst(2), NONE);
        is("what -1", x.dryFirst(-1), NONE);
        is("what 2", x.dryTwo(2), NONE);
        is("what -1", x.dryTwo(-1), NONE);
        is("nothing is dried", x.post(0, 3) + x.post(1, 3), 0);
        x.dry(0, true);
        is("as it is now", x.slept(), a);
        is("the other one", x.dryFirst(0) == NOT ? a : x.dryFirst(1), x.dryFirst(1));
        is("no two are left", x.dryTwo(0), NOT);
        is("no two are left", x.dryTwo(1), NOT);
        x.dry(1, true);
        is("none is left", x.dryFirst(0), NOT);
        is("as it is", x.dryFirst(1), x.slept());
        dryingsByHand("post a 9 0 1; post b 4 0 1; post c 6 0 1; guard g at a; guard h at b; guard i at c; guard j; guard k;"
            + "damp 1; flow = neck - wet; sleep 4;");
        for (int a0 = 1; a0 < 6; a0++) {
            for (int b0 = 1; b0 < 6; b0++) {
                dryingsByHand("post a " + a0 + " 0 1; post b " + b0 + " 0 1; post c 9 0 0; guard g at a; guard h at b;"
                    + "guard i at c; guard j; damp 1; flow = neck + 1 - wet; sleep 2;");
            }
        }
        // Nothing is sooner where damp is nothing; all pairs are alike.
        x = told("post a 0 0 1; post b 1 0 0; post c 1 0 0; guard g at a; guard h at c; guard i at b; sleep 1;");
        int asItIs = x.slept();
        is("none", x.dryFirst(0), NOT);
        is("as it is", x.dryFirst(1), asItIs);
        is("all alike", x.dryTwo(0), asItIs == NOT ? NOT : 1);
        x = told("post a 0 0 1; post b 1 0 0; post c 1 0 0; sleep 1; damp 1; flow = wet;");
        is("without guards", x.dryFirst(0), NOT);
        is("without guards", x.dryFirst(1), 0);
        is("without guards", x.dryTwo(0), 1);
        is("without guards", x.dryTwo(1), 0);
        x.dry(0, true);
        is("the first two left", x.dryTwo(0), 12);
    }

    /** Tries each post and each pair and looks which is best. */
    private static void dryingsByHand(String text) {
        SandGuards x = told(text);
        int least = byHand(text, NONE, NONE);
        int best = NOT;
        int leastTwo = NOT;
        int bestTwo = NOT;
        is("as it is: " + text, x.slept(), least);
        for (int p = 0; p < x.count(0); p++) {
            int by = byHand(text, p, NONE);
            if (by != NOT && (least == NOT || by < least)) {
                least = by;
                best = p;
            }
            for (int q = p + 1; q < x.count(0); q++) {
                int both = byHand(text, p, q);
                if (both != NOT && (leastTwo == NOT || both < leastTwo)) {
                    leastTwo = both;
                    bestTwo = 10 * p + q;
                }
            }
        }
        is("the best: " + text, x.dryFirst(0), best);
        is("its minutes: " + text, x.dryFirst(1), least);
        is("the best two: " + text, x.dryTwo(0), bestTwo);
        is("their minutes: " + text, x.dryTwo(1), leastTwo);
    }

    /** By when all have slept if these posts are really dried, minute by minute. */
    private static int byHand(String text, int one, int other) {
        SandGuards x = told(text);
        x.dry(one, true);
        x.dry(other, true);
        for (int minute = 0; minute <= 400; minute++) {
            if (x.count(12) == x.count(1)) {
                return minute;
            }
            x.run(1);
        }
        return NOT;
    }

    private static void bribes() {
        SandGuards x = told(RING);
        is("by itself", x.bribe(0, 3), 0);
        is("one", x.bribe(0, 2), 1);
        is("two", x.bribe(0, 1), 2);
        is("one at c", x.bribe(2, 1), 1);
        is("none at c", x.bribe(2, 2), 0);
        is("in bed", x.bribe(3, 5), NONE);
        is("no guard", x.bribe(4, 5), NONE);
        is("no guard", x.bribe(-1, 5), NONE);
        is("n 0", x.bribe(0, 0), NONE);
        is("n 1001", x.bribe(0, 1001), NONE);
        is("n 1000", x.bribe(0, 1000), 0);
        is("nothing happens", x.post(0, 0), 3);
        is("nobody ahead", told("post a 5 0 1; post b 5 0 1; guard g at a;").bribe(0, 1000), NOT);
        // neck 0: all of it must go
        is("all of it", told("post a 5 0 0; post b 5 0 0; guard g at a; guard h at b;").bribe(0, 1), 5);
        // 7 runs 3 a minute while it is above 5: less of it is slower
        x = told("post a 9 0 0; post b 5 0 0; guard g at a; guard h at b; flow = if post < 1 then above / 6 * 3 else 0;");
        is("less sand does not run", x.bribe(0, 9), 9);
        x = told("post a 9 0 0; post b 5 0 0; guard g at a; guard h at b; flow = if above < 7 then 0 else above;");
        is("as it is", x.bribe(0, 1), 0);
        is("one who goes on is not in bed", told("post a 9 0 0; post b 0 0 0; guard g at a; guard h at b; guard i;")
            .bribe(0, 1), 9);
    }

    private static void weak() {
        SandGuards x = told(RING);
        is("none", x.weak(2000, 0), 0);
        is("none", x.weak(2000, 1), NOT);
        x = told("post a 9 0 1; post b 9 0 1; guard g at a;");
        is("all", x.weak(2000, 0), 2000);
        is("the first", x.weak(1, 1), 0);
        is("filled at the end", told("post a 9 0 1; guard g;").weak(5, 0), 0);
        // h comes to a at the end of minute 2 and leaves c; g fills it at the end.
        x = told("post a 3 0 1; post b 9 0 0; post c 9 0 0; guard g at a; guard h at b; guard i at c;");
        is("g fills c", x.weak(9, 0), 0);
        is("no posts", new SandGuards().weak(1, 0), 0);
        is("no posts", new SandGuards().weak(1, 1), NOT);
        is("n 0", x.weak(0, 0), NONE);
        is("n 2001", x.weak(2001, 0), NONE);
        is("what 2", x.weak(1, 2), NONE);
        is("what -1", x.weak(1, -1), NONE);
        is("nothing happens", x.count(2), 0);
    }

    private static void neverAndSpread() {
        SandGuards x = told(RING);
        is("never(3): x and y", x.never(3), 3);
        is("never(1): all but w", x.never(1), 7);
        is("n 0", x.never(0), NONE);
        is("n 2001", x.never(2001), NONE);
        is("n 2000", x.never(2000) >= 0, true);
        x.run(3);
        is("w lies: never(1)", x.never(1), 7);
        is("no guards", new SandGuards().never(9), 0);
        is("all sleep", told("guard g; guard h;").never(1), 0);
        x = told(RING);
        is("spread(0)", x.spread(0), 0);
        is("spread(2): w 1, z 1", x.spread(2), 1);
        is("spread(3): w 2", x.spread(3), 2);
        is("n -1", x.spread(-1), NONE);
        is("n 2001", x.spread(2001), NONE);
        is("no guards", new SandGuards().spread(0), NOT);
        is("no guards", new SandGuards().spread(2000), NOT);
        x.run(3);
        is("spread(0) then", x.spread(0), 2);
        x = told("post a 1 0 0; guard g at a; guard h; guard i;");
        is("2000", x.spread(2000), 2000);
        is("nothing happens", x.guard(1, 1), 0);
    }

    private static void shakeWorst() {
        is("no posts", new SandGuards().shakeWorst(5, 0), NOT);
        is("no posts", new SandGuards().shakeWorst(5, 1), NOT);
        SandGuards x = told(RING);
        // behind 3 minutes w has slept 2 as it is; TURNED a is 0/3: it is out in each minute
        is("post", x.shakeWorst(3, 0), 1);
        is("guards", x.shakeWorst(3, 1), 0);
        is("n 1", x.shakeWorst(1, 0), 0);
        is("n 1", x.shakeWorst(1, 1), 0);
        is("n 0", x.shakeWorst(0, 0), NONE);
        is("n 1001", x.shakeWorst(1001, 0), NONE);
        is("what 2", x.shakeWorst(1, 2), NONE);
        is("what -1", x.shakeWorst(1, -1), NONE);
        glass(x, 1, 5, 0);
        x = told("post a 5 5 1; post b 5 5 1; guard g; sleep 1;");
        is("of alike ones the first", x.shakeWorst(1000, 0), 0);
        is("he went to a", x.shakeWorst(1000, 1), 0);
    }

    private static void longest() {
        is("no guards", new SandGuards().longest(0), NOT);
        is("no guards", new SandGuards().longest(1), NOT);
        is("all in bed", told("guard g;").longest(0), NOT);
        SandGuards x = told(RING);
        is("of alike ones the first", x.longest(0), 0);
        is("freed", x.longest(1), 3);
        x.run(2);
        is("x, since minute 0", x.longest(0), 0);
        is("freed, though he is at a post again then", x.longest(1), 1);
        x.run(1);
        is("z stood up now, as x; y is at b: all since one minute", x.longest(0), 0);
        is("what 2", x.longest(2), NONE);
        is("what -1", x.longest(-1), NONE);
        is("never", told("post a 9 0 1; guard g at a; guard h;").longest(1), NOT);
        String late = "post a 999 0 1; post b 999 0 0; guard g at a; guard h at b; flow = if minute < T then 0 else neck;";
        is("2000", told(late.replace("T", "1001")).longest(1), 2000);
        is("2001", told(late.replace("T", "1002")).longest(1), NOT);
        x = told("post a 9 0 1; post b 9 0 1; guard g at b; guard h;");
        x.run(1);
        is("the one who was there first", x.longest(0), 0);
        x = told("post a 9 0 1; post b 9 0 1; guard g; guard h at a;");
        x.run(1);
        x.run(1);
        is("h and g since minute 0", x.longest(0), 0);
    }

    private static void rests() {
        is("no posts", new SandGuards().rests(99, 300, NONE), 1);
        is("no posts", new SandGuards().rests(99, 300, 0), 0);
        is("no posts", new SandGuards().rests(99, 300, 1), NONE);
        is("EMPTY posts", told("post a 9 0 1; post b 9 0 1;").rests(1, 1, NONE), 1);
        SandGuards x = told("post a 2 0 1; post b 9 0 1; guard g at a; guard h at b; guard i; sleep 5;");
        // h decides over a, g over b. In 3 minutes a (2/0) is out at the end of minute 1: h comes, i to b, g to BED: g
        // sleeps 2 of 3, whatever is put into b; h never sleeps, whatever he does; so all sets rest.
        is("all", x.rests(9, 3, NONE), 4);
        for (int i = 0; i < 4; i++) {
            is("the " + i + "th", x.rests(9, 3, i), i);
        }
        is("no fifth", x.rests(9, 3, 4), NONE);
        is("i -2", x.rests(9, 3, -2), NONE);
        is("u 0", x.rests(0, 3, NONE), NONE);
        is("u 100", x.rests(100, 3, NONE), NONE);
        is("n 0", x.rests(9, 0, NONE), NONE);
        is("n 301", x.rests(9, 301, NONE), NONE);
        is("n 300", x.rests(1, 300, NONE) >= 0, true);
        glass(x, 0, 2, 0);
        // b is out at the end of minute 1 (g comes, h to BED, i to a) unless g puts grains in.
        x = told("post a 4 0 1; post b 2 0 1; guard g at a; guard h at b; guard i;");
        restsByHand("post a 4 0 1; post b 2 0 1; guard g at a; guard h at b; guard i;", x, 9, 5);
        restsByHand("post a 4 0 1; post b 2 0 1; guard g at a; guard h at b; guard i;", x, 1, 7);
        String three = "post a 4 0 1; post b 2 3 1; post c 7 1 2; guard g at a; guard i; guard h at b; guard k at c; guard m;";
        restsByHand(three, told(three), 3, 6);
        restsByHand(three, told(three), 1, 4);
        restsByHand(three, told(three), 99, 30);
        String two = "post a 4 0 1; post b 2 3 1; post c 7 1 2; guard g at a; guard h at b;";
        restsByHand(two, told(two), 2, 6);
        // no more than 9999, and what is above already stays
        String full = "post a 9 0 0; post b 9 0 0; guard g at a; guard h at b; guard i; flow = if 9998 < above then above else 0;";
        x = told(full);
        x.pinch(1, 9989);
        is("9998", x.post(1, 0), 9998);
        // g puts 1 of his 5 into b: it is 9999 and runs out at once: h sleeps, g does not: it is all one to g.
        is("sets", x.rests(5, 1, NONE), 4);
        x = told("post a 9 0 0; post b 9 0 0; post c 9 0 0; guard g at a; guard h at b; guard i; flow = if above < 9999 + 1 then 0 else above;");
        x.pinch(1, 9990);
        // never 10000 above, so nothing runs: all sets rest
        is("not beyond 9999", x.rests(99, 9, NONE), 4);
        // One post: the post behind his is his own. 1 grain out: nobody comes anyway.
        is("one post", told("post a 1 0 1; guard g at a;").rests(1, 9, NONE), 2);
    }

    /** Tries each set by pinches of the hand and looks which rest. */
    private static void restsByHand(String text, SandGuards x, int u, int n) {
        int posts = x.count(0);
        int[][] sleeps = new int[1 << posts][];
        for (int set = 0; set < 1 << posts; set++) {
            SandGuards y = told(text);
            boolean can = true;
            for (int post = 0; post < posts; post++) {
                if ((set >> post & 1) == 1) {
                    can &= y.post(post, 2) != NOT;
                    y.pinch((post + 1) % posts, u);
                }
            }
            y.run(n);
            if (can) {
                sleeps[set] = new int[y.count(1)];
                for (int guard = 0; guard < y.count(1); guard++) {
                    sleeps[set][guard] = y.guard(guard, 1);
                }
            }
        }
        int found = 0;
        for (int set = 0; set < 1 << posts; set++) {
            boolean rests = sleeps[set] != null;
            for (int post = 0; post < posts && rests; post++) {
                int guard = x.post(post, 2);
                rests = guard == NOT || sleeps[set ^ 1 << post][guard] <= sleeps[set][guard];
            }
            if (rests) {
                is("rests(" + u + ", " + n + ", " + found + ") of " + text, x.rests(u, n, found), set);
                found++;
            }
        }
        is("rests(" + u + ", " + n + ") of " + text, x.rests(u, n, NONE), found);
        is("one more", x.rests(u, n, found), NONE);
    }

    private static void where() {
        SandGuards x = told(RING);
        is("now", x.where(3, 0), NOT);
        is("now", x.where(2, 0), 2);
        is("w at b", x.where(3, 2), 1);
        is("w in bed", x.where(3, 3), NOT);
        is("y at c", x.where(1, 2), 2);
        is("y at b", x.where(1, 3), 1);
        is("no guard", x.where(4, 0), NONE);
        is("no guard", x.where(-1, 0), NONE);
        is("n -1", x.where(0, -1), NONE);
        is("n 2001", x.where(0, 2001), NONE);
        int later = x.where(1, 2000);
        is("nothing happens", x.count(2), 0);
        x.run(2000);
        is("2000", x.guard(1, 0), later);
    }

    private static void tampered() {
        SandGuards x = told(RING);
        is("no post", x.tell(3, 0), NONE);
        is("no post", x.tell(-1, 0), NONE);
        is("minute -1", x.tell(0, -1), NONE);
        is("minute 2001", x.tell(0, 2001), NONE);
        is("all ways", x.tampered(5, 0, NONE), 16);
        is("the first", x.tampered(5, 0, 0), 0);
        is("the next", x.tampered(5, 0, 1), 1);
        is("of the next post", x.tampered(5, 0, 6), 1001);
        is("the last", x.tampered(5, 0, 15), 2005);
        is("beyond", x.tampered(5, 0, 16), NONE);
        is("200", x.tampered(200, 0, NONE), 601);
        is("tell", x.tell(2, 1), 0);
        is("c as it was", x.tampered(5, 1, NONE), 11);
        is("of the first none", x.tampered(5, 0, NONE), 16);
        is("tell", x.tell(0, 3), 1);
        is("a had one more", x.tampered(5, 2, NONE), 1);
        is("a had one more", x.tampered(5, 2, 0), 1);
        is("the first one alone", x.tampered(5, 1, NONE), 11);
        is("most 0", x.tampered(0, 0, NONE), NONE);
        is("most 201", x.tampered(201, 0, NONE), NONE);
        is("k 3", x.tampered(5, 3, NONE), NONE);
        is("k -1", x.tampered(5, -1, NONE), NONE);
        is("i -2", x.tampered(5, 1, -2), NONE);
        // from minute 0 on, as by the text, whatever is done since
        x.run(5);
        x.pinch(0, 7);
        x.dry(0, true);
        is("as by the text", x.tampered(5, 2, 0), 1);
        is("undo has nothing to do with it", x.undo() && x.count(10) == 2, true);
        is("forget", x.forget(), 2);
        is("forgotten", x.count(10), 0);
        is("k 1", x.tampered(5, 1, NONE), NONE);
        is("tell again", x.tell(2, 2), 0);
        is("c had one more", x.tampered(5, 1, NONE), 1);
        is("c had one more", x.tampered(5, 1, 0), 2001);
        for (int i = 1; i < 20; i++) {
            is("tell " + i, x.tell(0, 2000), i);
        }
        is("20 are there", x.tell(0, 0), NONE);
        is("20", x.count(10), 20);
        is("k 20", x.tampered(1, 20, NONE) >= 0, true);
        is("forget", x.forget(), 20);
        x.tell(0, 0);
        is("not in minute 0", x.tampered(5, 1, NONE), 0);
        x.forget();
        x.tell(2, 1);
        is("what was forgotten is not due", x.tampered(5, 1, NONE), 11);
        is("another most", x.tampered(6, 1, NONE), 13);
        String eight = "";
        for (int i = 0; i < 8; i++) {
            eight += "post p" + (char) ('a' + i) + " 1 1 1;";
        }
        is("the most", told(eight).tampered(200, 0, NONE), 1601);
        is("the last of them", told(eight).tampered(200, 0, 1600), 7200);
        is("no posts", new SandGuards().tampered(5, 0, NONE), 0);
        is("no posts", new SandGuards().tampered(0, 0, NONE), NONE);
        // a is out at the end of minute 1998 + more, and not again before 2000
        x = told("post a 1 5 1; post b 9 0 0; guard g at a; guard h at b; flow = if minute < 1998 then 0 else neck;");
        x.tell(0, 2000);
        is("the last minute", x.tampered(9, 1, NONE), 1);
        is("two more", x.tampered(9, 1, 0), 2);
        x.tell(0, 1999);
        is("not both", x.tampered(9, 2, NONE), 0);
    }

    private static void slots() {
        SandGuards x = told(RING);
        for (int slot : new int[] {-1, 3, Integer.MIN_VALUE, Integer.MAX_VALUE}) {
            is("hold(" + slot + ")", x.hold(slot), false);
            is("restore(" + slot + ")", x.restore(slot), false);
        }
        is("nothing is held", x.restore(2), false);
        x.run(1);
        is("hold(2)", x.hold(2), true);
        x.run(7);
        x.dry(1, true);
        x.pinch(1, 3);
        x.turn(2);
        is("hold(0)", x.hold(0), true);
        is("two", x.count(11), 2);
        is("things", x.count(9), 5);
        is("restore(2)", x.restore(2), true);
        is("minute", x.count(2), 1);
        is("dried", x.post(1, 3), 0);
        is("by hand", x.post(1, 6), 0);
        is("nothing can be undone", x.undo(), false);
        is("two still", x.count(11), 2);
        x.run(2);
        is("w slept", x.guard(3, 1), 2);
        is("restore(2) again", x.restore(2), true);
        is("w slept", x.guard(3, 1), 1);
        is("restore(0)", x.restore(0), true);
        is("minute", x.count(2), 8);
        is("dried", x.post(1, 3), 1);
        is("by hand", x.post(1, 6), 3);
        is("nothing is held in 1", x.restore(1), false);
        x.run(1);
        x.restore(1);
        is("undo stays if nothing happens", x.count(9), 1);
        x.hold(0);
        is("hold anew", x.count(11), 2);
        x.run(1);
        x.restore(0);
        is("what was held last", x.count(2), 9);
    }

    private static void counts() {
        SandGuards x = told("post a 9 1 1; post b 8 2 1; post c 7 3 1; guard g at b; guard h; sleep 3; damp 1 2 3;");
        int[] counts = {3, 2, 0, 1, 2, 3, 3, 30, 0, 0, 0, 0, 0};
        for (int what = 0; what < counts.length; what++) {
            is("count(" + what + ")", x.count(what), counts[what]);
        }
        put(x, "abc");
        is("bytes", x.count(8), 3);
        x.send(1, 0);
        is("in bed", x.count(3), 0);
        is("EMPTY", x.count(4), 1);
        is("things", x.count(9), 1);
        x.undo();
        x.pinch(0, 5);
        is("grains", x.count(7), 35);
        x.tell(0, 0);
        is("told", x.count(10), 1);
        x.hold(1);
        is("slots", x.count(11), 1);
        is("what 13", x.count(13), NONE);
        is("what -1", x.count(-1), NONE);
        x = told("guard g; guard h; sleep 3;");
        x.run(2);
        is("none slept 3", x.count(12), 0);
        x.run(1);
        is("both slept 3", x.count(12), 2);
        is("sleep 0: all have", told("guard g; sleep 0;").count(12), 1);
    }

    /** What is asked twice is answered as it is each time. */
    private static void asked() {
        String wet = "post a 2 0 1; post b 2 0 1; guard g at a; guard h at b; guard i; damp 1; flow = neck - wet; sleep 3;";
        SandGuards x = told(wet);
        String wetAnswers = answers(x);
        x.hold(0);
        x.dry(0, true);
        x.pinch(1, 3);
        String dryAnswers = answers(x);
        is("answers differ", dryAnswers.equals(wetAnswers), false);
        x.undo();
        x.undo();
        is("as before", answers(x).equals(wetAnswers), true);
        x.dry(0, true);
        x.pinch(1, 3);
        is("as then", answers(x).equals(dryAnswers), true);
        x.restore(0);
        is("as held", answers(x).equals(wetAnswers), true);
        put(x, wet.replace("damp 1", "damp 0"));
        x.read();
        String other = answers(x);
        is("as told", other.equals(answers(told(wet.replace("damp 1", "damp 0")))), true);
        x.run(1);
        is("a minute later", answers(x).equals(other), false);
        x.tell(0, 1);
        is("tampered", x.tampered(4, 1, NONE), 5);
        x.forget();
        x.tell(0, 2);
        is("tampered", x.tampered(4, 1, NONE), 1);
        put(x, wet);
        x.read();
        x.tell(0, 2);
        is("tampered", x.tampered(4, 1, NONE), 0);
        x = told(RING);
        is("u 9", x.rests(9, 3, NONE), told(RING).rests(9, 3, NONE));
        is("u 1", x.rests(1, 3, NONE), told(RING).rests(1, 3, NONE));
        is("n 9", x.rests(1, 9, NONE), told(RING).rests(1, 9, NONE));
        is("n 3", x.rests(1, 3, NONE), told(RING).rests(1, 3, NONE));
    }

    private static String answers(SandGuards x) {
        StringBuilder all = new StringBuilder();
        for (int i = 0; i < 2; i++) {
            all.append(x.slept()).append(' ').append(x.dryFirst(0)).append(' ').append(x.dryFirst(1)).append(' ');
            all.append(x.dryTwo(0)).append(' ').append(x.dryTwo(1)).append(' ').append(x.longest(1)).append(' ');
            all.append(x.rests(1, 5, NONE)).append(' ').append(x.rests(2, 6, NONE)).append(' ');
            for (int j = 0; j < 4; j++) {
                all.append(x.rests(1, 5, j)).append(' ');
            }
        }
        return all.toString();
    }

    /** Whatever the arguments, a call answers: NONE or false, and the castle stays as it is. */
    private static void oddArguments() {
        SandGuards x = told(RING);
        for (int odd : ODD) {
            for (int other : new int[] {0, 1, -1, Integer.MAX_VALUE, Integer.MIN_VALUE}) {
                is("post", x.post(odd, other), NONE);
                is("guard", x.guard(odd, other), NONE);
                is("shake", x.shake(odd, other), NONE);
                is("pinch", x.pinch(odd, other), NONE);
                is("send", x.send(odd, other), false);
                is("bribe", x.bribe(odd, other), NONE);
                is("weak", x.weak(odd, other), NONE);
                is("shakeWorst", x.shakeWorst(odd, other), NONE);
                is("where", x.where(odd, other), NONE);
                is("tell", x.tell(odd, other), NONE);
                is("rests", x.rests(odd, 1, other), NONE);
                is("rests", x.rests(1, odd, other), NONE);
                is("tampered", x.tampered(odd, 0, other), NONE);
                is("tampered", x.tampered(1, odd, other), NONE);
            }
            is("back", x.back(odd), NONE);
            is("run", x.run(odd), NONE);
            is("turn", x.turn(odd), false);
            is("dry", x.dry(odd, true), false);
            is("out", x.out(odd), NONE);
            is("dryFirst", x.dryFirst(odd), NONE);
            is("dryTwo", x.dryTwo(odd), NONE);
            is("never", x.never(odd), NONE);
            is("spread", x.spread(odd), NONE);
            is("longest", x.longest(odd), NONE);
            is("hold", x.hold(odd), false);
            is("restore", x.restore(odd), false);
            is("count", x.count(odd), NONE);
        }
        is("nothing was done", x.count(9), 0);
        is("nothing was told", x.count(10), 0);
        is("grains", x.count(7), 14);
    }
}
