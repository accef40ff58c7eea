/** What the tests of boundaries share: texts put on the tape, answers compared, a castle looked at as a whole. */
class Checks {
    static final int NONE = SandGuards.NONE;
    static final int NOT = -2;
    static final int LEAST = Integer.MIN_VALUE;
    static final int GREATEST = Integer.MAX_VALUE;
    /** Four GUARDS on three POSTS; w lies in BED. */
    static final String RING =
        "post a 3 0 1; post b 5 0 2; post c 2 4 1; guard x at a; guard y at b; guard z at c; guard w; sleep 2;";
    private static final int COUNTS = 13;

    private static int wrong = 0;
    private static int sentences = 0;
    private static String words = "";

    /** The sentence of the document that is tested from here on. */
    static void sentence(String sentence) {
        words = sentence;
        sentences++;
    }

    static void is(String what, int got, int want) {
        if (got != want) {
            wrong++;
            System.out.println("[" + words + "] " + what + " answered " + got + ", due is " + want);
        }
    }

    static void is(String what, boolean got, boolean want) {
        is(what, got ? 1 : 0, want ? 1 : 0);
    }

    static void same(String what, String got, String want) {
        if (!got.equals(want)) {
            wrong++;
            System.out.println("[" + words + "] " + what + " is " + got + ", due is " + want);
        }
    }

    static void end() {
        System.out.println(wrong == 0 ? sentences + " sentences hold" : wrong + " answers are not as due");
        if (wrong != 0) {
            System.exit(1);
        }
    }

    /** Puts a text on the tape, byte by byte as it stands. */
    static void put(SandGuards x, String text) {
        for (int at = 0; at < text.length(); at += 20) {
            int[] bytes = new int[5];
            for (int i = 0; i < 20; i++) {
                int sign = at + i < text.length() ? text.charAt(at + i) : ' ';
                bytes[i / 4] = bytes[i / 4] << 8 | sign;
            }
            x.feed(bytes[0], bytes[1], bytes[2], bytes[3], bytes[4]);
        }
        x.back((20 - text.length() % 20) % 20);
    }

    static SandGuards told(String text) {
        SandGuards x = new SandGuards();
        put(x, text);
        is("read() of " + text, x.read(), 0);
        return x;
    }

    /** A text without a FAULT. */
    static void well(String text) {
        fault(text, 0, NONE);
    }

    static void fault(String text, int number, int place) {
        SandGuards x = new SandGuards();
        put(x, text);
        is("bytes of " + text, x.count(8), text.length());
        is("read() of " + text, x.read(), number);
        is("place() of " + text, x.place(), place);
    }

    static void glass(SandGuards x, int post, int above, int below) {
        is("above at " + post, x.post(post, 0), above);
        is("below at " + post, x.post(post, 1), below);
    }

    /** All that can be seen of a castle without looking ahead. */
    static String state(SandGuards x) {
        StringBuilder all = new StringBuilder();
        for (int what = 0; what < COUNTS; what++) {
            all.append(x.count(what)).append(what + 1 < COUNTS ? "," : ";");
        }
        return all.append(sandAndGuards(x)).toString();
    }

    static String sandAndGuards(SandGuards x) {
        StringBuilder all = new StringBuilder();
        for (int post = 0; post < x.count(0); post++) {
            for (int what = 0; what <= 6; what++) {
                all.append(x.post(post, what)).append(what < 6 ? "," : ";");
            }
        }
        for (int guard = 0; guard < x.count(1); guard++) {
            for (int what = 0; what <= 4; what++) {
                all.append(x.guard(guard, what)).append(what < 4 ? "," : ";");
            }
        }
        return all.toString();
    }

    static String times(String text, int n) {
        return text.repeat(n);
    }

    /** So many posts, "pa", "pb" and on, each with 1 grain above, 2 below, neck 3. */
    static String posts(int n) {
        StringBuilder text = new StringBuilder();
        for (int i = 0; i < n; i++) {
            text.append("post p").append((char) ('a' + i)).append(" 1 2 3;");
        }
        return text.toString();
    }

    /** So many guards in BED, "ga", "gb" and on. */
    static String guards(int n) {
        StringBuilder text = new StringBuilder();
        for (int i = 0; i < n; i++) {
            text.append("guard g").append((char) ('a' + i)).append(';');
        }
        return text.toString();
    }
}
