import java.util.ArrayList;
import java.util.List;
import java.util.Random;

/**
 * Random runs of calls, each answered by SandGuards and by a plain castle that goes minute by minute and
 * reads by recursion. The seeds are fixed, so that each run of this test is the same.
 * Arguments: the first seed and how many runs (1 and 300 if none are given).
 */
public final class AgainstPlain {
    private static int wrong = 0;

    public static void main(String[] args) {
        long first = args.length > 0 ? Long.parseLong(args[0]) : 1;
        int runs = args.length > 1 ? Integer.parseInt(args[1]) : 300;
        for (long seed = first; seed < first + runs && wrong < 5; seed++) {
            new Run(seed).go();
        }
        System.out.println(wrong == 0 ? "all runs answer alike" : wrong + " runs answer otherwise");
        if (wrong != 0) {
            System.exit(1);
        }
    }

    /** One run of calls. */
    private static final class Run {
        final Random random;
        final long seed;
        final SandGuards castle = new SandGuards();
        final Plain plain = new Plain();
        final List<String> log = new ArrayList<>();
        int calls = 0;
        boolean failed = false;

        Run(long seed) {
            this.seed = seed;
            random = new Random(seed * 7919);
        }

        void go() {
            int length = 20 + random.nextInt(150);
            if (seed % 4 == 0) {
                readOnly();
                return;
            }
            if (random.nextInt(8) > 0) {
                tellText(new Texts(random).wellMade());
            }
            for (int i = 0; i < 6 && !failed; i++) {
                int g = aGuard();
                int p = aPost();
                check("send(" + g + ", " + p + ")", castle.send(g, p), plain.send(g, p));
                lookAll();
            }
            while (calls < length && !failed) {
                oneCall();
            }
        }

        void readOnly() {
            for (int i = 0; i < 12 && !failed; i++) {
                tellText(new Texts(random).broken());
                doRun(1 + random.nextInt(5));
            }
        }

        void check(String call, int got, int want) {
            calls++;
            log.add(call + " -> " + got);
            if (got != want && !failed) {
                failed = true;
                wrong++;
                for (String line : log) {
                    System.out.println("seed " + seed + ": " + line);
                }
                System.out.println("seed " + seed + ": " + call + " answered " + got + ", plain says " + want);
            }
        }

        void check(String call, boolean got, boolean want) {
            check(call, got ? 1 : 0, want ? 1 : 0);
        }

        void tellText(String text) {
            int at = 0;
            while (at < text.length()) {
                int[] words = new int[5];
                for (int i = 0; i < 20; i++) {
                    int sign = at + i < text.length() ? text.charAt(at + i) : ' ';
                    words[i / 4] = words[i / 4] << 8 | sign;
                }
                at += 20;
                check("feed", castle.feed(words[0], words[1], words[2], words[3], words[4]),
                    plain.feed(words[0], words[1], words[2], words[3], words[4]));
            }
            if (at > text.length()) {
                check("back(" + (at - text.length()) + ")", castle.back(at - text.length()), plain.back(at - text.length()));
            }
            log.add("text: " + text);
            check("read()", castle.read(), plain.read());
            check("place()", castle.place(), plain.place());
            lookAll();
        }

        void lookAll() {
            for (int what = -1; what <= 13; what++) {
                check("count(" + what + ")", castle.count(what), plain.count(what));
            }
            for (int post = 0; post < plain.posts.size(); post++) {
                for (int what = 0; what <= 6; what++) {
                    check("post(" + post + ", " + what + ")", castle.post(post, what), plain.post(post, what));
                }
            }
            for (int guard = 0; guard < plain.guards.size(); guard++) {
                for (int what = 0; what <= 4; what++) {
                    check("guard(" + guard + ", " + what + ")", castle.guard(guard, what), plain.guard(guard, what));
                }
            }
            calls -= 15 + 7 * plain.posts.size() + 5 * plain.guards.size();
        }

        int aPost() {
            return random.nextInt(20) == 0 ? odd() : random.nextInt(Math.max(1, plain.posts.size()));
        }

        int aGuard() {
            return random.nextInt(20) == 0 ? odd() : random.nextInt(Math.max(1, plain.guards.size()));
        }

        int aWhat() {
            return random.nextInt(10) == 0 ? odd() : random.nextInt(2);
        }

        int odd() {
            int[] all = {-1, -2, 8, 12, 13, 3, Integer.MIN_VALUE, Integer.MAX_VALUE, 2000, 2001, 0, 7};
            return all[random.nextInt(all.length)];
        }

        int minutes(int most) {
            switch (random.nextInt(12)) {
                case 0: return odd();
                case 1: return most;
                case 2: return most + 1;
                case 3: return 0;
                case 4: return random.nextInt(most) + 1;
                default: return 1 + random.nextInt(Math.min(most, 40));
            }
        }

        void oneCall() {
            switch (random.nextInt(30)) {
                case 0: case 1: case 2: doRun(minutes(2000)); break;
                case 3: { int p = aPost(); check("turn(" + p + ")", castle.turn(p), plain.turn(p)); lookAll(); break; }
                case 4: {
                    int p = aPost();
                    int n = random.nextInt(12) == 0 ? odd() : random.nextInt(30);
                    check("shake(" + p + ", " + n + ")", castle.shake(p, n), plain.shake(p, n));
                    lookAll();
                    break;
                }
                case 5: {
                    int p = aPost();
                    boolean on = random.nextInt(3) > 0;
                    check("dry(" + p + ", " + on + ")", castle.dry(p, on), plain.dry(p, on));
                    lookAll();
                    break;
                }
                case 6: {
                    int p = aPost();
                    int n = random.nextInt(8) == 0 ? odd() : random.nextInt(61) - 30;
                    if (random.nextInt(60) == 0) {
                        n = 9999;
                    }
                    check("pinch(" + p + ", " + n + ")", castle.pinch(p, n), plain.pinch(p, n));
                    lookAll();
                    break;
                }
                case 7: case 8: {
                    int g = aGuard();
                    int p = aPost();
                    check("send(" + g + ", " + p + ")", castle.send(g, p), plain.send(g, p));
                    lookAll();
                    break;
                }
                case 9: case 10: check("undo()", castle.undo(), plain.undo()); lookAll(); break;
                case 11: { int p = aPost(); check("out(" + p + ")", castle.out(p), plain.out(p)); break; }
                case 12: check("slept()", castle.slept(), plain.slept()); break;
                case 13: { int w = aWhat(); check("dryFirst(" + w + ")", castle.dryFirst(w), plain.dryFirst(w)); break; }
                case 14: { int w = aWhat(); check("dryTwo(" + w + ")", castle.dryTwo(w), plain.dryTwo(w)); break; }
                case 15: doBribe(); break;
                case 16: {
                    int n = minutes(2000);
                    int w = aWhat();
                    check("weak(" + n + ", " + w + ")", castle.weak(n, w), plain.weak(n, w));
                    break;
                }
                case 17: { int n = minutes(2000); check("never(" + n + ")", castle.never(n), plain.never(n)); break; }
                case 18: { int n = minutes(2000); check("spread(" + n + ")", castle.spread(n), plain.spread(n)); break; }
                case 19: {
                    int n = minutes(1000);
                    int w = aWhat();
                    check("shakeWorst(" + n + ", " + w + ")", castle.shakeWorst(n, w), plain.shakeWorst(n, w));
                    break;
                }
                case 20: { int w = aWhat(); check("longest(" + w + ")", castle.longest(w), plain.longest(w)); break; }
                case 21: doRests(); break;
                case 22: {
                    int g = aGuard();
                    int n = minutes(2000);
                    check("where(" + g + ", " + n + ")", castle.where(g, n), plain.where(g, n));
                    break;
                }
                case 23: case 24: doTell(); break;
                case 25: doTampered(); break;
                case 26: {
                    int slot = random.nextInt(10) == 0 ? odd() : random.nextInt(3);
                    check("hold(" + slot + ")", castle.hold(slot), plain.hold(slot));
                    break;
                }
                case 27: {
                    int slot = random.nextInt(10) == 0 ? odd() : random.nextInt(3);
                    check("restore(" + slot + ")", castle.restore(slot), plain.restore(slot));
                    lookAll();
                    break;
                }
                case 28:
                    if (random.nextInt(6) == 0) {
                        check("forget()", castle.forget(), plain.forget());
                    }
                    break;
                default:
                    if (random.nextInt(4) == 0) {
                        tellText(random.nextInt(2) == 0 ? new Texts(random).wellMade() : new Texts(random).broken());
                    }
                    break;
            }
            calls++;
        }

        void doRun(int n) {
            check("run(" + n + ")", castle.run(n), plain.run(n));
            lookAll();
        }

        void doBribe() {
            int g = aGuard();
            int n = minutes(1000);
            int p = plain.guard(g, 0);
            if (p >= 0 && plain.post(p, 0) > 100) {
                n = Math.min(n, 30);
            }
            if (p >= 0 && plain.post(p, 0) > 2000) {
                n = Math.min(n, 2);
            }
            check("bribe(" + g + ", " + n + ")", castle.bribe(g, n), plain.bribe(g, n));
        }

        void doRests() {
            int u = random.nextInt(10) == 0 ? odd() : 1 + random.nextInt(99);
            int n = minutes(300);
            if (plain.posts.size() > 5) {
                n = Math.min(n, 40);
            }
            int i = random.nextInt(2) == 0 ? -1 : random.nextInt(6);
            check("rests(" + u + ", " + n + ", " + i + ")", castle.rests(u, n, i), plain.rests(u, n, i));
            check("rests(" + u + ", " + n + ", 1)", castle.rests(u, n, 1), plain.rests(u, n, 1));
        }

        void doTell() {
            int p = aPost();
            int m = random.nextInt(12) == 0 ? minutes(2000) : random.nextInt(30);
            if (random.nextInt(3) > 0 && !plain.posts.isEmpty()) {
                int[] turn = plain.someTurn(random.nextInt(40), random.nextInt(5), p);
                if (turn != null) {
                    p = turn[0];
                    m = turn[1];
                }
            }
            check("tell(" + p + ", " + m + ")", castle.tell(p, m), plain.tell(p, m));
        }

        void doTampered() {
            int most = random.nextInt(10) == 0 ? odd() : 1 + random.nextInt(12);
            int k = random.nextInt(10) == 0 ? odd() : random.nextInt(plain.told.size() + 1);
            int i = random.nextInt(2) == 0 ? -1 : random.nextInt(8) - 2;
            check("tampered(" + most + ", " + k + ", " + i + ")", castle.tampered(most, k, i), plain.tampered(most, k, i));
            check("tampered(" + most + ", " + k + ", 2)", castle.tampered(most, k, 2), plain.tampered(most, k, 2));
        }
    }

    /** Makes texts. */
    private static final class Texts {
        final Random random;
        final List<String> postNames = new ArrayList<>();
        int named = 0;
        boolean lively;

        Texts(Random random) {
            this.random = random;
        }

        String name() {
            String[] starts = {"a", "guards", "posts", "x", "neckk", "min", "atx", "zzzzzz"};
            named++;
            return starts[random.nextInt(starts.length)] + (char) ('a' + named / 26) + (char) ('a' + named % 26);
        }

        String wellMade() {
            StringBuilder text = new StringBuilder();
            lively = random.nextInt(3) > 0;
            int posts = random.nextInt(10) == 0 ? random.nextInt(3) : 1 + random.nextInt(random.nextInt(3) == 0 ? 8 : 4);
            int most = random.nextInt(4) == 0 ? 80 : 12;
            for (int i = 0; i < posts; i++) {
                String name = name();
                postNames.add(name);
                int above = random.nextInt(most) + (lively ? 1 : 0);
                int below = random.nextInt(3) > 0 ? 0 : random.nextInt(most);
                text.append("post ").append(name).append(' ').append(above).append(' ').append(below)
                    .append(' ').append(random.nextInt(6) + (lively ? 1 : 0)).append(';').append(gap());
            }
            guards(text, posts);
            if (lively) {
                text.append(livelyLaw());
            } else if (random.nextInt(3) > 0) {
                text.append(law(false));
            }
            if (random.nextInt(2) == 0) {
                text.append("damp");
                int hours = random.nextInt(8) == 0 ? 24 : random.nextInt(6);
                for (int i = 0; i < hours; i++) {
                    text.append(' ').append(random.nextInt(6));
                }
                text.append(';');
            }
            if (random.nextInt(3) > 0) {
                text.append("sleep ").append(random.nextInt(random.nextInt(3) == 0 ? 300 : 20)).append(';');
            }
            return text.length() > 1980 ? wellMadeShort() : text.toString();
        }

        String wellMadeShort() {
            return "post a 3 0 1; post b 2 2 1; guard x at a; guard y at b; guard z; sleep 3;";
        }

        void guards(StringBuilder text, int posts) {
            List<String> free = new ArrayList<>(postNames);
            int guards = Math.min(12, lively ? posts + random.nextInt(5) : random.nextInt(posts + 5));
            for (int i = 0; i < guards; i++) {
                text.append("guard ").append(name());
                if (!free.isEmpty() && random.nextInt(lively ? 12 : 4) > 0) {
                    text.append(" at ").append(free.remove(random.nextInt(free.size())));
                }
                text.append(gap()).append(';');
            }
        }

        /** Laws under which sand mostly runs. */
        String livelyLaw() {
            String[] laws = {"", "", "flow = neck - wet;", "flow = neck + 1 - wet / 2;", "flow = if wet < 2 then neck else 1;",
                "flow = neck + above / 4;", "flow = if minute / 7 * 7 < minute then neck else 0;", "flow = neck * 2 / (1 + wet);",
                "flow = if below < above then 1 else neck;", "flow = neck + post;", "flow = 1 + (minute + post) / (wet + 3) - minute / 3;",
                "flow = if wet < 1 then 2 else if wet < 2 then 1 else if above < 5 then 3 else neck - wet;"};
            return laws[random.nextInt(laws.length)];
        }

        String gap() {
            String[] gaps = {"", " ", "\n", "\t ", "  ", "\r\n"};
            return gaps[random.nextInt(gaps.length)];
        }

        String law(boolean wild) {
            StringBuilder text = new StringBuilder("flow = ");
            int ifs = random.nextInt(3) == 0 ? random.nextInt(wild ? 7 : 5) : 0;
            for (int i = 0; i < ifs; i++) {
                text.append("if ").append(sum(0)).append(" < ").append(sum(0)).append(" then ").append(sum(0)).append(" else ");
            }
            return text.append(sum(0)).append(';').append(gap()).toString();
        }

        String sum(int depth) {
            StringBuilder text = new StringBuilder(product(depth));
            for (int i = random.nextInt(3); i > 0; i--) {
                text.append(gap()).append(random.nextBoolean() ? '+' : '-').append(gap()).append(product(depth));
            }
            return text.toString();
        }

        String product(int depth) {
            StringBuilder text = new StringBuilder(unit(depth));
            for (int i = Math.max(0, random.nextInt(5) - 2); i > 0; i--) {
                text.append(gap()).append(random.nextBoolean() ? '*' : '/').append(gap()).append(unit(depth));
            }
            return text.toString();
        }

        String unit(int depth) {
            String[] vars = {"neck", "wet", "above", "below", "minute", "post", "neck", "neck"};
            int kind = random.nextInt(8);
            if (kind == 0 && depth < 6) {
                return "(" + sum(depth + 1) + ")";
            }
            if (kind < 4) {
                return "" + (random.nextInt(10) == 0 ? random.nextInt(10000) : random.nextInt(7));
            }
            return vars[random.nextInt(vars.length)];
        }

        /** A text with something amiss, or much of it. */
        String broken() {
            StringBuilder text = new StringBuilder(wellMade());
            if (random.nextInt(3) == 0) {
                return slipped(text.toString());
            }
            if (random.nextInt(3) == 0) {
                text.append(law(true));
            }
            if (random.nextInt(4) == 0) {
                more(text);
            }
            String[] bits = {"post", "guard", "at", ";", "(", ")", "((((((1))))))", "(((((((1)))))))", "12345", "1234", "abcdefghi",
                "abcdefgh", "A", ".", "if", "<", "=", "1000", "100", "99", "999", "damp", "sleep", "then", "else", " ", "" + (char) 200,
                "guard aab at aab;", "post aab 1 1 1;", "flow = 1/0;", "neck", "minute", "+", "*"};
            int changes = random.nextInt(4);
            for (int i = 0; i < changes; i++) {
                int at = random.nextInt(text.length() + 1);
                switch (random.nextInt(4)) {
                    case 0: text.insert(at, " " + bits[random.nextInt(bits.length)] + " "); break;
                    case 1: text.insert(at, bits[random.nextInt(bits.length)]); break;
                    case 2:
                        if (at < text.length()) {
                            text.deleteCharAt(at);
                        }
                        break;
                    default: text.setLength(random.nextInt(3) == 0 ? at : text.length()); break;
                }
            }
            if (text.length() > 2000) {
                text.setLength(2000);
            }
            return text.toString();
        }

        /** Numbers and names of a well made text exchanged for others. */
        String slipped(String text) {
            String[] words = text.split("(?<=[ ;\\n\\t\\r])|(?=[ ;\\n\\t\\r])");
            String[] numbers = {"0", "99", "100", "999", "1000", "9999", "0099", "0100"};
            for (int i = 0; i < 1 + random.nextInt(3); i++) {
                int at = random.nextInt(words.length);
                boolean isName = words[at].matches("[a-z]+") && !Plain.WORDS.contains(words[at]);
                if (words[at].matches("[0-9]+")) {
                    words[at] = numbers[random.nextInt(numbers.length)];
                } else if (isName && named > 0) {
                    String other = words[random.nextInt(words.length)];
                    words[at] = other.matches("[a-z]+") && !Plain.WORDS.contains(other) ? other : name();
                }
            }
            return String.join("", words);
        }

        void more(StringBuilder text) {
            int kind = random.nextInt(5);
            int times = random.nextInt(30);
            if (kind == 4) {
                text.append("flow=1");
                for (int i = 0; i < 150 + random.nextInt(60); i++) {
                    text.append("+1");
                }
                text.append(";");
                return;
            }
            if (kind == 3) {
                text.append("damp");
            }
            for (int i = 0; i < times; i++) {
                switch (kind) {
                    case 0: text.append("post ").append(name()).append(" 1 2 3;"); break;
                    case 1: text.append("guard ").append(name()).append(";"); break;
                    case 2: text.append("damp 1 2 3 4 5 6;"); break;
                    default: text.append(" 7"); break;
                }
            }
            text.append(kind == 3 ? ";" : "");
        }
    }

    /** The castle as the document tells it, minute by minute. */
    private static final class Plain {
        static final int NONE = -1;
        static final int NOT = -2;

        static final class Post {
            int above, below, neck, turned, byHand;
            boolean dried;
            int guard = NOT;
        }

        static final class Guard {
            int post = NOT;
            int slept, watch, beddings;
        }

        static final class State {
            List<Post> posts = new ArrayList<>();
            List<Guard> guards = new ArrayList<>();
            List<Integer> bed = new ArrayList<>();
            int minute;
            List<Integer> turnedNow = new ArrayList<>();
            List<Integer> outNow = new ArrayList<>();

            State copy() {
                State s = new State();
                for (Post p : posts) {
                    Post q = new Post();
                    q.above = p.above;
                    q.below = p.below;
                    q.neck = p.neck;
                    q.turned = p.turned;
                    q.byHand = p.byHand;
                    q.dried = p.dried;
                    q.guard = p.guard;
                    s.posts.add(q);
                }
                for (Guard g : guards) {
                    Guard h = new Guard();
                    h.post = g.post;
                    h.slept = g.slept;
                    h.watch = g.watch;
                    h.beddings = g.beddings;
                    s.guards.add(h);
                }
                s.bed.addAll(bed);
                s.minute = minute;
                return s;
            }
        }

        static final class Fault extends RuntimeException {
            final int number, at;

            Fault(int number, int at) {
                super(null, null, false, false);
                this.number = number;
                this.at = at;
            }
        }

        interface Sum {
            int of(int[] vars);
        }

        static final class Zero extends RuntimeException {
            Zero() {
                super(null, null, false, false);
            }
        }

        static final String VARS = "neck wet above below minute post ";
        static final List<String> WORDS = List.of("post", "guard", "at", "flow", "if", "then", "else", "damp", "sleep", "neck", "wet",
            "above", "below", "minute");

        String tape = "";
        int faultAt = NONE;
        State now = new State();
        State start = new State();
        List<Post> posts = now.posts;
        List<Guard> guards = now.guards;
        Sum law = v -> v[0];
        List<Integer> damp = new ArrayList<>();
        int sleep = 60;
        List<State> done = new ArrayList<>();
        List<int[]> told = new ArrayList<>();
        State[] slots = new State[3];

        int feed(int... words) {
            if (tape.length() + 20 > 2000) {
                return NONE;
            }
            StringBuilder more = new StringBuilder(tape);
            for (int word : words) {
                for (int i = 3; i >= 0; i--) {
                    more.append((char) (word >>> 8 * i & 255));
                }
            }
            tape = more.toString();
            return tape.length();
        }

        int back(int n) {
            if (n < 0 || n > tape.length()) {
                return NONE;
            }
            tape = tape.substring(0, tape.length() - n);
            return tape.length();
        }

        // ---- reading

        String text;
        int next, tokenAt, tokens;
        String token;
        State draft;
        Sum draftLaw;
        List<Integer> draftDamp;
        int draftSleep;
        List<String> names, postNames;
        Fault slip;

        int read() {
            text = tape;
            tape = "";
            faultAt = NONE;
            try {
                readText();
            } catch (Fault f) {
                faultAt = f.at;
                return f.number;
            }
            use(draft);
            start = draft.copy();
            law = draftLaw;
            damp = draftDamp;
            sleep = draftSleep;
            done.clear();
            told.clear();
            slots = new State[3];
            return 0;
        }

        void use(State state) {
            now = state;
            posts = now.posts;
            guards = now.guards;
        }

        void readText() {
            next = 0;
            tokens = 0;
            draft = new State();
            draftLaw = v -> v[0];
            draftDamp = new ArrayList<>();
            draftSleep = 60;
            names = new ArrayList<>();
            postNames = new ArrayList<>();
            slip = null;
            step();
            while (!token.isEmpty()) {
                tell();
            }
            if (slip != null) {
                throw slip;
            }
        }

        /** The next token; "" at the end, "?" for none, "#" and its digits for an INT, "'" and its letters for a NAME. */
        void step() {
            while (next < text.length() && "\t\n\r ".indexOf(text.charAt(next)) >= 0) {
                next++;
            }
            tokenAt = next;
            tokens++;
            String rest = text.substring(next);
            String letters = rest.replaceFirst("(?s)^([a-z]*).*$", "$1");
            String digits = rest.replaceFirst("(?s)^([0-9]*).*$", "$1");
            if (rest.isEmpty()) {
                token = "";
            } else if (!letters.isEmpty()) {
                next += letters.length();
                token = letters.length() > 8 ? "?" : WORDS.contains(letters) ? letters : "'" + letters;
            } else if (!digits.isEmpty()) {
                next += digits.length();
                token = digits.length() > 4 ? "?" : "#" + digits;
            } else {
                next++;
                token = ";=+-*/<()".indexOf(rest.charAt(0)) >= 0 ? rest.substring(0, 1) : "?";
            }
        }

        void pass() {
            if (tokens > 400) {
                throw new Fault(2, tokenAt);
            }
            step();
        }

        void need(String what) {
            if (!token.equals(what)) {
                throw new Fault(1, tokenAt);
            }
            pass();
        }

        void slip(int number, int at) {
            if (slip == null) {
                slip = new Fault(number, at);
            }
        }

        String needKind(char kind) {
            if (token.isEmpty() || token.charAt(0) != kind) {
                throw new Fault(1, tokenAt);
            }
            String body = token.substring(1);
            pass();
            return body;
        }

        int needInt(int most) {
            int at = tokenAt;
            int n = Integer.parseInt(needKind('#'));
            if (n > most) {
                slip(5, at);
            }
            return n;
        }

        String needNewName() {
            int at = tokenAt;
            String name = needKind('\'');
            if (names.contains(name)) {
                slip(3, at);
            }
            names.add(name);
            return name;
        }

        void tell() {
            switch (token) {
                case "post": tellPost(); break;
                case "guard": tellGuard(); break;
                case "flow":
                    pass();
                    need("=");
                    draftLaw = ifs(1);
                    break;
                case "damp":
                    pass();
                    draftDamp = new ArrayList<>();
                    while (token.startsWith("#")) {
                        if (draftDamp.size() == 24) {
                            throw new Fault(2, tokenAt);
                        }
                        draftDamp.add(needInt(99));
                    }
                    break;
                case "sleep":
                    pass();
                    draftSleep = needInt(9999);
                    break;
                default: throw new Fault(1, tokenAt);
            }
            need(";");
        }

        void tellPost() {
            if (draft.posts.size() == 8) {
                throw new Fault(2, tokenAt);
            }
            pass();
            String name = needNewName();
            Post post = new Post();
            post.above = needInt(999);
            post.below = needInt(999);
            post.neck = needInt(99);
            draft.posts.add(post);
            postNames.add(name);
        }

        void tellGuard() {
            if (draft.guards.size() == 12) {
                throw new Fault(2, tokenAt);
            }
            pass();
            needNewName();
            Guard guard = new Guard();
            int number = draft.guards.size();
            draft.guards.add(guard);
            if (!token.equals("at")) {
                draft.bed.add(number);
                return;
            }
            pass();
            int at = tokenAt;
            int post = postNames.indexOf(needKind('\''));
            if (post < 0) {
                slip(4, at);
            } else if (draft.posts.get(post).guard != NOT) {
                slip(3, at);
            } else {
                guard.post = post;
                draft.posts.get(post).guard = number;
            }
        }

        Sum ifs(int number) {
            if (!token.equals("if")) {
                return sum(0);
            }
            if (number == 5) {
                throw new Fault(2, tokenAt);
            }
            pass();
            Sum left = sum(0);
            need("<");
            Sum right = sum(0);
            need("then");
            Sum yes = sum(0);
            need("else");
            Sum no = ifs(number + 1);
            return v -> left.of(v) < right.of(v) ? yes.of(v) : no.of(v);
        }

        Sum sum(int depth) {
            Sum all = product(depth);
            while (token.equals("+") || token.equals("-")) {
                int sign = token.equals("+") ? 1 : -1;
                pass();
                Sum left = all;
                Sum right = product(depth);
                all = v -> left.of(v) + sign * right.of(v);
            }
            return all;
        }

        Sum product(int depth) {
            Sum all = unit(depth);
            while (token.equals("*") || token.equals("/")) {
                boolean times = token.equals("*");
                pass();
                Sum left = all;
                Sum right = unit(depth);
                all = v -> {
                    int a = left.of(v);
                    int b = right.of(v);
                    if (!times && b == 0) {
                        throw new Zero();
                    }
                    return times ? a * b : a / b;
                };
            }
            return all;
        }

        Sum unit(int depth) {
            if (token.startsWith("#")) {
                int n = Integer.parseInt(needKind('#'));
                return v -> n;
            }
            if (token.equals("(")) {
                if (depth == 6) {
                    throw new Fault(2, tokenAt);
                }
                pass();
                Sum inside = sum(depth + 1);
                need(")");
                return inside;
            }
            int var = List.of("neck", "wet", "above", "below", "minute", "post").indexOf(token);
            if (var < 0) {
                throw new Fault(1, tokenAt);
            }
            pass();
            return v -> v[var];
        }

        // ---- minutes

        int flow(State s, int number) {
            Post p = s.posts.get(number);
            int wet = p.dried || damp.isEmpty() ? 0 : damp.get(s.minute / 60 % damp.size());
            int told;
            try {
                told = law.of(new int[] {p.neck, wet, p.above, p.below, s.minute, number});
            } catch (Zero z) {
                told = 0;
            }
            return told < 0 ? 0 : told > p.above ? p.above : told;
        }

        void minute(State s) {
            int n = s.posts.size();
            s.outNow.clear();
            s.turnedNow.clear();
            for (int i = 0; i < n; i++) {
                int sand = flow(s, i);
                s.posts.get(i).above -= sand;
                s.posts.get(i).below += sand;
                if (s.posts.get(i).above == 0) {
                    s.outNow.add(i);
                }
            }
            for (int i = 0; i < n; i++) {
                Post here = s.posts.get(i);
                int leftNumber = (i + n - 1) % n;
                Post left = s.posts.get(leftNumber);
                if (here.above == 0 && here.guard != NOT && left.guard != NOT && left != here) {
                    int tired = here.guard;
                    here.above = here.below;
                    here.below = 0;
                    here.turned++;
                    s.turnedNow.add(i);
                    put(s, left.guard, i);
                    left.guard = NOT;
                    if (!s.bed.isEmpty()) {
                        put(s, s.bed.remove(0), leftNumber);
                    }
                    s.bed.add(tired);
                    s.guards.get(tired).post = NOT;
                    s.guards.get(tired).watch = 0;
                    s.guards.get(tired).beddings++;
                }
            }
            for (int i = 0; i < n; i++) {
                if (s.posts.get(i).guard == NOT && !s.bed.isEmpty()) {
                    put(s, s.bed.remove(0), i);
                }
            }
            for (Guard g : s.guards) {
                if (g.post == NOT) {
                    g.slept++;
                } else {
                    g.watch++;
                }
            }
            s.minute++;
        }

        void put(State s, int guard, int post) {
            s.posts.get(post).guard = guard;
            s.guards.get(guard).post = post;
            s.guards.get(guard).watch = 0;
        }

        State after(State from, int minutes) {
            State s = from.copy();
            for (int i = 0; i < minutes; i++) {
                minute(s);
            }
            return s;
        }

        // ---- calls

        boolean noPost(int post) {
            return post < 0 || post >= posts.size();
        }

        boolean noGuard(int guard) {
            return guard < 0 || guard >= guards.size();
        }

        int place() {
            return faultAt;
        }

        int post(int post, int what) {
            if (noPost(post)) {
                return NONE;
            }
            Post p = posts.get(post);
            int[] all = {p.above, p.below, p.guard, p.dried ? 1 : 0, p.turned, flow(now, post), p.byHand};
            return what < 0 || what > 6 ? NONE : all[what];
        }

        int guard(int guard, int what) {
            if (noGuard(guard)) {
                return NONE;
            }
            Guard g = guards.get(guard);
            int bed = now.bed.indexOf(guard);
            int[] all = {g.post, g.slept, g.watch, bed < 0 ? NOT : bed, g.beddings};
            return what < 0 || what > 4 ? NONE : all[what];
        }

        void remember() {
            done.add(now.copy());
            if (done.size() > 40) {
                done.remove(0);
            }
        }

        int run(int n) {
            if (n < 0 || n > 2000) {
                return NONE;
            }
            if (n > 0) {
                remember();
                use(after(now, n));
            }
            return now.minute;
        }

        boolean turn(int post) {
            if (noPost(post)) {
                return false;
            }
            remember();
            Post p = posts.get(post);
            int t = p.above;
            p.above = p.below;
            p.below = t;
            return true;
        }

        int shake(int post, int n) {
            if (noPost(post) || n < 0) {
                return NONE;
            }
            remember();
            Post p = posts.get(post);
            int up = n < p.below ? n : p.below;
            p.above += up;
            p.below -= up;
            return up;
        }

        boolean dry(int post, boolean on) {
            if (noPost(post)) {
                return false;
            }
            remember();
            posts.get(post).dried = on;
            return true;
        }

        int pinch(int post, int n) {
            if (noPost(post)) {
                return NONE;
            }
            long then = posts.get(post).above + (long) n;
            if (then < 0 || then > 9999) {
                return NONE;
            }
            remember();
            posts.get(post).above = (int) then;
            posts.get(post).byHand += n;
            return (int) then;
        }

        boolean send(int guard, int post) {
            if (noGuard(guard) || noPost(post) || guards.get(guard).post != NOT || posts.get(post).guard != NOT) {
                return false;
            }
            remember();
            now.bed.remove((Integer) guard);
            put(now, guard, post);
            return true;
        }

        boolean undo() {
            if (done.isEmpty()) {
                return false;
            }
            use(done.remove(done.size() - 1));
            return true;
        }

        int out(int post) {
            if (noPost(post)) {
                return NONE;
            }
            if (posts.get(post).above == 0) {
                return 0;
            }
            State s = now.copy();
            for (int i = 1; i <= 2000; i++) {
                minute(s);
                if (s.outNow.contains(post)) {
                    return i;
                }
            }
            return NOT;
        }

        int sleepers(State s) {
            int n = 0;
            for (Guard g : s.guards) {
                n += g.slept >= sleep ? 1 : 0;
            }
            return n;
        }

        int sleptBy(State from) {
            State s = from.copy();
            for (int i = 0; i <= 3000; i++) {
                if (sleepers(s) == s.guards.size()) {
                    return i;
                }
                minute(s);
            }
            return NOT;
        }

        int slept() {
            return sleptBy(now);
        }

        int dryFirst(int what) {
            if (what < 0 || what > 1) {
                return NONE;
            }
            int best = NOT;
            int least = slept();
            for (int i = 0; i < posts.size(); i++) {
                if (!posts.get(i).dried) {
                    State s = now.copy();
                    s.posts.get(i).dried = true;
                    int by = sleptBy(s);
                    if (by != NOT && (least == NOT || by < least)) {
                        best = i;
                        least = by;
                    }
                }
            }
            return what == 0 ? best : least;
        }

        int dryTwo(int what) {
            if (what < 0 || what > 1) {
                return NONE;
            }
            int best = NOT;
            int least = NOT;
            for (int i = 0; i < posts.size(); i++) {
                for (int j = i + 1; j < posts.size(); j++) {
                    if (!posts.get(i).dried && !posts.get(j).dried) {
                        State s = now.copy();
                        s.posts.get(i).dried = true;
                        s.posts.get(j).dried = true;
                        int by = sleptBy(s);
                        if (by != NOT && (least == NOT || by < least)) {
                            best = 10 * i + j;
                            least = by;
                        }
                    }
                }
            }
            return what == 0 ? best : least;
        }

        int toBed(State from, int guard, int most) {
            State s = from.copy();
            for (int i = 1; i <= most; i++) {
                minute(s);
                if (s.guards.get(guard).beddings > from.guards.get(guard).beddings) {
                    return i;
                }
            }
            return NOT;
        }

        int bribe(int guard, int n) {
            if (noGuard(guard) || n < 1 || n > 1000 || guards.get(guard).post == NOT) {
                return NONE;
            }
            int post = guards.get(guard).post;
            for (int grains = 0; grains <= posts.get(post).above; grains++) {
                State s = now.copy();
                s.posts.get(post).above -= grains;
                if (toBed(s, guard, n) != NOT) {
                    return grains;
                }
            }
            return NOT;
        }

        int weak(int n, int what) {
            if (n < 1 || n > 2000 || what < 0 || what > 1) {
                return NONE;
            }
            State s = now.copy();
            int many = 0;
            int first = NOT;
            for (int i = 0; i < n; i++) {
                minute(s);
                boolean empty = false;
                for (Post p : s.posts) {
                    empty |= p.guard == NOT;
                }
                if (empty) {
                    many++;
                    first = first == NOT ? i : first;
                }
            }
            return what == 0 ? many : first;
        }

        int never(int n) {
            if (n < 1 || n > 2000) {
                return NONE;
            }
            State s = after(now, n);
            int bits = 0;
            for (int i = 0; i < guards.size(); i++) {
                bits += s.guards.get(i).slept == guards.get(i).slept ? 1 << i : 0;
            }
            return bits;
        }

        int spread(int n) {
            if (n < 0 || n > 2000) {
                return NONE;
            }
            State s = after(now, n);
            int most = 0;
            int least = Integer.MAX_VALUE;
            for (Guard g : s.guards) {
                most = Math.max(most, g.slept);
                least = Math.min(least, g.slept);
            }
            return s.guards.isEmpty() ? NOT : most - least;
        }

        int shakeWorst(int n, int what) {
            if (n < 1 || n > 1000 || what < 0 || what > 1) {
                return NONE;
            }
            int worst = NOT;
            int fewest = NOT;
            for (int i = 0; i < posts.size(); i++) {
                State s = now.copy();
                int t = s.posts.get(i).above;
                s.posts.get(i).above = s.posts.get(i).below;
                s.posts.get(i).below = t;
                int many = sleepers(after(s, n));
                if (worst == NOT || many < fewest) {
                    worst = i;
                    fewest = many;
                }
            }
            return what == 0 ? worst : fewest;
        }

        int longest(int what) {
            if (what < 0 || what > 1) {
                return NONE;
            }
            int best = NOT;
            for (int i = 0; i < guards.size(); i++) {
                Guard g = guards.get(i);
                if (g.post != NOT && (best == NOT || g.watch > guards.get(best).watch)) {
                    best = i;
                }
            }
            return what == 0 || best == NOT ? best : toBed(now, best, 2000);
        }

        int rests(int u, int n, int i) {
            if (u < 1 || u > 99 || n < 1 || n > 300 || i < -1) {
                return NONE;
            }
            int size = posts.size();
            int[][] sleeps = new int[1 << size][];
            for (int set = 0; set < 1 << size; set++) {
                State s = now.copy();
                boolean fine = true;
                for (int p = 0; p < size; p++) {
                    if ((set >> p & 1) == 1) {
                        fine &= posts.get(p).guard != NOT;
                        Post behind = s.posts.get((p + 1) % size);
                        for (int grain = 0; grain < u && behind.above < 9999; grain++) {
                            behind.above++;
                        }
                    }
                }
                if (fine) {
                    s = after(s, n);
                    sleeps[set] = s.guards.stream().mapToInt(g -> g.slept).toArray();
                }
            }
            List<Integer> found = new ArrayList<>();
            for (int set = 0; set < 1 << size; set++) {
                boolean rests = sleeps[set] != null;
                for (int p = 0; p < size && rests; p++) {
                    int g = posts.get(p).guard;
                    rests = g == NOT || sleeps[set ^ 1 << p][g] <= sleeps[set][g];
                }
                if (rests) {
                    found.add(set);
                }
            }
            return i == -1 ? found.size() : i < found.size() ? found.get(i) : NONE;
        }

        int where(int guard, int n) {
            return noGuard(guard) || n < 0 || n > 2000 ? NONE : after(now, n).guards.get(guard).post;
        }

        int tell(int post, int minute) {
            if (noPost(post) || minute < 0 || minute > 2000 || told.size() == 20) {
                return NONE;
            }
            told.add(new int[] {post, minute});
            return told.size() - 1;
        }

        int forget() {
            int n = told.size();
            told.clear();
            return n;
        }

        /** The number-th turn by one who came, if so much more were above a post: which post, which minute. */
        int[] someTurn(int number, int more, int post) {
            if (noPost(post)) {
                return null;
            }
            State s = start.copy();
            s.posts.get(post).above += more;
            int seen = 0;
            for (int m = 0; m < 60; m++) {
                minute(s);
                for (int turned : s.turnedNow) {
                    if (seen++ == number) {
                        return new int[] {turned, m};
                    }
                }
            }
            return null;
        }

        int tampered(int most, int k, int i) {
            if (most < 1 || most > 200 || k < 0 || k > told.size() || i < -1) {
                return NONE;
            }
            List<Integer> ways = new ArrayList<>();
            for (int p = 0; p < posts.size(); p++) {
                for (int more = 0; more <= most; more++) {
                    if ((p == 0 || more > 0) && fits(p, more, k)) {
                        ways.add(1000 * p + more);
                    }
                }
            }
            return i == -1 ? ways.size() : i < ways.size() ? ways.get(i) : NONE;
        }

        boolean fits(int post, int more, int k) {
            State s = start.copy();
            s.posts.get(post).above += more;
            int last = -1;
            for (int j = 0; j < k; j++) {
                last = Math.max(last, told.get(j)[1]);
            }
            for (int m = 0; m <= last; m++) {
                minute(s);
                for (int j = 0; j < k; j++) {
                    if (told.get(j)[1] == m && !s.turnedNow.contains(told.get(j)[0])) {
                        return false;
                    }
                }
            }
            return true;
        }

        boolean hold(int slot) {
            if (slot < 0 || slot > 2) {
                return false;
            }
            slots[slot] = now.copy();
            return true;
        }

        boolean restore(int slot) {
            if (slot < 0 || slot > 2 || slots[slot] == null) {
                return false;
            }
            use(slots[slot].copy());
            done.clear();
            return true;
        }

        int count(int what) {
            int empty = 0;
            int grains = 0;
            for (Post p : posts) {
                empty += p.guard == NOT ? 1 : 0;
                grains += p.above + p.below;
            }
            int held = 0;
            for (State s : slots) {
                held += s == null ? 0 : 1;
            }
            int[] all = {posts.size(), guards.size(), now.minute, now.bed.size(), empty, sleep, damp.size(), grains, tape.length(),
                done.size(), told.size(), held, sleepers(now)};
            return what < 0 || what > 12 ? NONE : all[what];
        }
    }
}
