/** Boundaries of part IV and of promises 27 to 32: what is TOLD, TAMPERED, SLOTS, counts. */
public final class LateBoundaries extends Checks {
    /** a is out, and turned, each minute at whose end so many more than a grain of it have run; b never runs. */
    private static final String PAIR = "post a 1 0 1;post b 9 0 0;guard g at a;guard h at b;guard i;";

    public static void main(String[] args) {
        tellNumbers();
        tellTwenty();
        tellRefused();
        forgetAll();
        tamperedMinutes();
        tamperedMost();
        tamperedNoneOnce();
        tamperedWithoutPosts();
        tamperedKnown();
        tamperedOrder();
        tamperedAsByText();
        tamperedRefused();
        holdSlots();
        holdRefused();
        restoreStays();
        restoreRefused();
        restoreAndUndo();
        countEach();
        countRefused();
        end();
    }

    private static void tellNumbers() {
        sentence("27: It is TOLD: its number; IV: numbered from 0 on");
        SandGuards x = told(posts(8));
        is("the first", x.tell(0, 0), 0);
        is("the next", x.tell(7, 2000), 1);
        is("the same once more", x.tell(7, 2000), 2);
        is("TOLD", x.count(10), 3);
        is("no thing done", x.count(9), 0);
    }

    private static void tellTwenty() {
        sentence("IV: TOLD: 20 at most; 27: NONE, and nothing happens: 20 are there");
        SandGuards x = told(posts(8));
        for (int i = 0; i < 20; i++) {
            is("tell", x.tell(i % 8, i), i);
        }
        is("a 21st", x.tell(0, 0), NONE);
        is("TOLD", x.count(10), 20);
        is("the first 20 are known", x.tampered(1, 20, NONE), 0);
        is("no 21", x.tampered(1, 21, NONE), NONE);
        is("forget", x.forget(), 20);
        is("again from 0 on", x.tell(0, 0), 0);
    }

    private static void tellRefused() {
        sentence("27: NONE, and nothing happens: no such ones; IV: at which minute (0 .. 2000)");
        SandGuards x = told(posts(3));
        for (int post : new int[] {-1, 3, 8, LEAST, GREATEST}) {
            is("post " + post, x.tell(post, 0), NONE);
        }
        for (int minute : new int[] {-1, 2001, LEAST, GREATEST}) {
            is("minute " + minute, x.tell(0, minute), NONE);
        }
        is("TOLD", x.count(10), 0);
        is("the last post, the last minute", x.tell(2, 2000), 0);
        is("the first post, the first minute", x.tell(0, 0), 1);
        is("no posts", new SandGuards().tell(0, 0), NONE);
    }

    private static void forgetAll() {
        sentence("28: All that was TOLD is forgotten: how many there were.");
        SandGuards x = told(PAIR);
        is("none", x.forget(), 0);
        x.tell(0, 0);
        is("one", x.forget(), 1);
        is("none", x.forget(), 0);
        is("TOLD", x.count(10), 0);
        is("none is known", x.tampered(1, 1, NONE), NONE);
        x.tell(1, 5);
        is("b is never turned", x.tampered(1, 1, NONE), 0);
        x.forget();
        x.tell(0, 5);
        is("what was forgotten is not asked for", x.tampered(1, 1, NONE), 3);
    }

    private static void tamperedMinutes() {
        sentence("IV: at the end of which MINUTE, the first one's is 0; each KNOWN turn comes to pass at its minute");
        SandGuards x = told(PAIR);
        x.tell(0, 0);
        // As it is a is out at the end of each minute, with one more of every second one: in 1, 3, 5.
        is("minute 0: a as it was, b as it may", x.tampered(3, 1, NONE), 4);
        is("none", x.tampered(3, 1, 0), 0);
        is("b", x.tampered(3, 1, 1), 1001);
        x.forget();
        x.tell(0, 1);
        is("minute 1: one more, too", x.tampered(3, 1, NONE), 5);
        is("one more", x.tampered(3, 1, 1), 1);
        x.forget();
        x.tell(0, 2);
        is("minute 2: two more, not one", x.tampered(3, 1, 1), 2);
        String late = "post a 1 5 1;post b 9 0 0;guard g at a;guard h at b;flow=if minute<1998 then 0 else neck;";
        x = told(late);
        x.tell(0, 2000);
        is("minute 2000", x.tampered(9, 1, NONE), 1);
        is("two more", x.tampered(9, 1, 0), 2);
        x.forget();
        x.tell(1, 2000);
        is("b is never turned", x.tampered(9, 1, NONE), 0);
        x.forget();
        x.tell(0, 2000);
        is("minute 2000 again", x.tampered(9, 1, NONE), 1);
        x.forget();
        x.tell(0, 1998);
        is("minute 1998: as it was, b as it may", x.tampered(9, 1, NONE), 10);
        x.forget();
        x.tell(0, 1997);
        is("minute 1997", x.tampered(9, 1, NONE), 0);
    }

    private static void tamperedMost() {
        sentence("IV: how many grains (0 .. most, most 1 .. 200)");
        SandGuards x = told(PAIR);
        x.tell(0, 200);
        // out every m + 1 minutes with m more: at the end of minute 200 if m + 1 goes into 201, which is 3 * 67
        is("200", x.tampered(200, 1, NONE), 4 + 200);
        is("199", x.tampered(199, 1, NONE), 3 + 199);
        int[] more = {0, 2, 66, 200, 1001, 1002};
        for (int i = 0; i < more.length; i++) {
            is("the " + i + "th", x.tampered(200, 1, i), more[i]);
        }
        is("the last", x.tampered(200, 1, 203), 1200);
        is("no more", x.tampered(200, 1, 204), NONE);
        is("1", x.tampered(1, 1, NONE), 1 + 1);
        is("2", x.tampered(2, 1, NONE), 2 + 2);
    }

    private static void tamperedNoneOnce() {
        sentence("IV: 0 told once, as POST 0 by 0");
        SandGuards x = told(posts(8));
        is("none known", x.tampered(1, 0, NONE), 9);
        is("0 once", x.tampered(1, 0, 0), 0);
        for (int post = 0; post < 8; post++) {
            is("1 each", x.tampered(1, 0, 1 + post), 1000 * post + 1);
        }
        is("no more", x.tampered(1, 0, 9), NONE);
        is("the most ways", x.tampered(200, 0, NONE), 1601);
        is("the last of them", x.tampered(200, 0, 1600), 7200);
        is("no more", x.tampered(200, 0, 1601), NONE);
        is("one post", told("post a 1 1 1;").tampered(1, 0, NONE), 2);
    }

    private static void tamperedWithoutPosts() {
        sentence("IV: without POSTS there is no way");
        for (SandGuards x : new SandGuards[] {new SandGuards(), told(guards(12))}) {
            is("how many", x.tampered(1, 0, NONE), 0);
            is("how many", x.tampered(200, 0, NONE), 0);
            is("the first", x.tampered(1, 0, 0), NONE);
        }
    }

    private static void tamperedKnown() {
        sentence("IV: KNOWN by k: the first k");
        SandGuards x = told(PAIR);
        x.tell(0, 1);
        x.tell(0, 2);
        x.tell(1, 3);
        is("none", x.tampered(3, 0, NONE), 7);
        is("the first: 0, 1 of a, all of b", x.tampered(3, 1, NONE), 5);
        is("two: 0, all of b", x.tampered(3, 2, NONE), 4);
        is("three: b is never turned", x.tampered(3, 3, NONE), 0);
        is("the first again", x.tampered(3, 1, NONE), 5);
        // a later minute told first, an earlier one behind it; one told twice; two of one minute
        x.forget();
        x.tell(0, 5);
        x.tell(0, 1);
        x.tell(0, 1);
        is("5: m + 1 goes into 6", x.tampered(5, 1, NONE), 4 + 5);
        is("5 and 1: m + 1 goes into 6 and 2", x.tampered(5, 2, NONE), 2 + 5);
        is("told twice", x.tampered(5, 3, NONE), 2 + 5);
        x = told("post a 1 0 1;post b 1 0 1;guard g at a;guard h at b;guard i;");
        x.tell(0, 0);
        x.tell(1, 0);
        is("a", x.tampered(2, 1, NONE), 3);
        is("a and b in one minute", x.tampered(2, 2, NONE), 1);
        is("as it was", x.tampered(2, 2, 0), 0);
    }

    private static void tamperedOrder() {
        sentence("29: how many ways (i NONE), else the i-th by POSTS, then grains: 1000 * the POST + how many; NONE: not so many");
        SandGuards x = told(PAIR);
        int[] ways = {0, 1, 2, 1001, 1002};
        is("how many", x.tampered(2, 0, NONE), ways.length);
        for (int i = 0; i < ways.length; i++) {
            is("the " + i + "th", x.tampered(2, 0, i), ways[i]);
        }
        is("not so many", x.tampered(2, 0, ways.length), NONE);
        is("not so many", x.tampered(2, 0, GREATEST), NONE);
        x.tell(1, 0);
        is("no way", x.tampered(2, 1, NONE), 0);
        is("no first one", x.tampered(2, 1, 0), NONE);
    }

    private static void tamperedAsByText() {
        sentence("IV: TAMPERED, from minute 0 on, all as by the text");
        SandGuards x = told(PAIR + "damp 1;flow=neck-wet+1;");
        x.tell(0, 1);
        is("at first", x.tampered(3, 1, NONE), 5);
        x.run(7);
        is("minute 7", x.tampered(3, 1, NONE), 5);
        x.dry(0, true);
        x.pinch(0, 50);
        x.turn(1);
        is("by hand", x.tampered(3, 1, NONE), 5);
        is("another most, then this one", x.tampered(2, 1, NONE) + x.tampered(3, 1, NONE), 4 + 5);
        x.hold(0);
        x.restore(0);
        is("TOLD stays", x.count(10), 1);
        is("restored", x.tampered(3, 1, NONE), 5);
    }

    private static void tamperedRefused() {
        sentence("29: NONE: no such ones");
        SandGuards x = told(PAIR);
        x.tell(0, 0);
        x.tell(0, 1);
        for (int i = -1; i <= 0; i++) {
            for (int most : new int[] {-1, 0, 201, LEAST, GREATEST}) {
                is("most " + most, x.tampered(most, 0, i), NONE);
            }
            for (int k : new int[] {-1, 3, 20, LEAST, GREATEST}) {
                is("k " + k, x.tampered(1, k, i), NONE);
            }
        }
        for (int i : new int[] {-2, LEAST}) {
            is("i " + i, x.tampered(1, 0, i), NONE);
        }
        is("k 2 of 2", x.tampered(1, 2, NONE), 2);
        is("most 0 without posts", new SandGuards().tampered(0, 0, NONE), NONE);
        is("most 201 without posts", new SandGuards().tampered(201, 0, NONE), NONE);
        is("k 1 without posts", new SandGuards().tampered(1, 1, NONE), NONE);
    }

    private static void holdSlots() {
        sentence("30: POSTS, GUARDS, BED, the minute are held in a SLOT (0 .. 2): true");
        SandGuards x = told(RING + "damp 1;flow=neck+wet;");
        String[] held = new String[3];
        for (int slot = 0; slot < 3; slot++) {
            x.run(3);
            x.dry(slot, true);
            x.pinch(slot, 5);
            x.shake(slot, 2);
            held[slot] = sandAndGuards(x) + x.count(2);
            is("hold(" + slot + ")", x.hold(slot), true);
            is("SLOTS", x.count(11), slot + 1);
        }
        x.run(5);
        for (int slot = 2; slot >= 0; slot--) {
            is("restore(" + slot + ")", x.restore(slot), true);
            same("slot " + slot, sandAndGuards(x) + x.count(2), held[slot]);
        }
        // held anew: what was there is gone
        x.run(1);
        String anew = sandAndGuards(x) + x.count(2);
        is("hold(1)", x.hold(1), true);
        is("SLOTS", x.count(11), 3);
        x.run(1);
        x.restore(1);
        same("slot 1", sandAndGuards(x) + x.count(2), anew);
    }

    private static void holdRefused() {
        sentence("30: false: no such one");
        SandGuards x = told(RING);
        for (int slot : new int[] {-1, 3, LEAST, GREATEST}) {
            is("hold(" + slot + ")", x.hold(slot), false);
        }
        is("SLOTS", x.count(11), 0);
        for (int slot = 0; slot < 3; slot++) {
            is("nothing is held", x.restore(slot), false);
        }
    }

    private static void restoreStays() {
        sentence("31: They go on from what a SLOT holds (that stays there)");
        SandGuards x = told(RING);
        x.run(1);
        x.hold(0);
        String held = sandAndGuards(x);
        for (int again = 0; again < 3; again++) {
            x.run(4);
            x.dry(1, true);
            is("restore", x.restore(0), true);
            same("as held", sandAndGuards(x), held);
            is("SLOTS", x.count(11), 1);
        }
        x.run(2);
        SandGuards y = told(RING);
        y.run(3);
        same("gone on from", sandAndGuards(x), sandAndGuards(y));
        // a new castle with nothing in it can be held, too
        x = new SandGuards();
        x.run(7);
        is("hold", x.hold(2), true);
        x.run(1);
        is("restore", x.restore(2), true);
        is("minute", x.count(2), 7);
    }

    private static void restoreRefused() {
        sentence("31: false, and nothing happens: no such one, nothing is held");
        SandGuards x = told(RING);
        x.hold(1);
        x.run(3);
        String before = state(x);
        for (int slot : new int[] {-1, 0, 2, 3, LEAST, GREATEST}) {
            is("restore(" + slot + ")", x.restore(slot), false);
        }
        same("nothing", state(x), before);
        is("what was done can be undone", x.undo(), true);
        is("restore(1)", x.restore(1), true);
    }

    private static void restoreAndUndo() {
        sentence("31: nothing can be undone then");
        SandGuards x = told(RING);
        for (int i = 0; i < 45; i++) {
            x.pinch(0, 1);
        }
        is("40", x.count(9), 40);
        x.hold(0);
        is("hold leaves them", x.count(9), 40);
        x.restore(0);
        is("none", x.count(9), 0);
        is("undo", x.undo(), false);
        x.pinch(0, 1);
        is("undo", x.undo(), true);
        is("as restored", x.post(0, 0), 48);
        is("no more", x.undo(), false);
        // an undo does not reach the slots
        x.run(1);
        x.hold(1);
        x.undo();
        is("SLOTS", x.count(11), 2);
        x.restore(1);
        is("minute", x.count(2), 1);
    }

    private static void countEach() {
        sentence("32: 0 POSTS .. 12 how many GUARDS have slept SLEEP");
        SandGuards x = told(posts(8) + guards(12) + "sleep 2;damp 1 2 3;");
        same("at first", counts(x), "8,12,0,12,8,2,3,24,0,0,0,0,0,");
        x.send(11, 7);
        x.feed(0, 0, 0, 0, 0);
        x.back(3);
        x.pinch(0, 5);
        x.tell(0, 0);
        x.tell(1, 0);
        x.hold(2);
        same("then", counts(x), "8,12,0,11,7,2,3,29,17,2,2,1,0,");
        x.pinch(0, -6);
        is("grains in all", x.count(7), 23);
        x = told("post a 9 0 0;guard g at a;guard h;guard i;sleep 2;");
        x.run(1);
        is("have slept 1 of 2", x.count(12), 0);
        x.run(1);
        is("have slept 2 of 2", x.count(12), 2);
        x.run(1);
        is("have slept 3 of 2", x.count(12), 2);
        is("SLEEP 0", told(guards(12) + "sleep 0;").count(12), 12);
        is("SLEEP 1", told(guards(12) + "sleep 1;").count(12), 0);
        x = told("post a 999 999 0;post b 0 999 0;");
        x.turn(0);
        x.pinch(0, 9000);
        is("grains in all", x.count(7), 11997);
        is("nobody: all are EMPTY", x.count(4), 2);
    }

    private static String counts(SandGuards x) {
        StringBuilder all = new StringBuilder();
        for (int what = 0; what <= 12; what++) {
            all.append(x.count(what)).append(',');
        }
        return all.toString();
    }

    private static void countRefused() {
        sentence("32: NONE for others");
        for (SandGuards x : new SandGuards[] {new SandGuards(), told(RING)}) {
            for (int what : new int[] {-1, 13, LEAST, GREATEST}) {
                is("count(" + what + ")", x.count(what), NONE);
            }
        }
    }
}
