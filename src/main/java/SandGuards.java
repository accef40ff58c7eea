/** A castle of hour glasses, as ../shared/DOC.md promises it; words in capitals are that document's. */
public final class SandGuards {
    public static final int NONE = -1;

    /** What the document answers for EMPTY, in BED, "not" and "none". */
    private static final int NOT = -2;
    private static final int MOST_POSTS = 8;
    private static final int MOST_GUARDS = 12;
    private static final int MOST_TOKENS = 400;
    private static final int MOST_DAMP = 24;
    private static final int MOST_GRAINS = 9999;
    private static final int MOST_MINUTES = 2000;
    private static final int SLOTS = 3;

    private final Tape tape = new Tape();
    private final Reader reader = new Reader();
    private final Plan plan = new Plan();
    private final Castle start = new Castle();
    private final Castle now = new Castle();
    private final History history = new History();
    private final Castle[] slots = new Castle[SLOTS];
    private final boolean[] isHeld = new boolean[SLOTS];
    private final Outlook outlook = new Outlook();
    private final Dryings dryings = new Dryings();
    private final Game game = new Game();
    private final Rumours rumours = new Rumours();
    private int faultPlace = NONE;

    public SandGuards() {
        for (int slot = 0; slot < SLOTS; slot++) {
            slots[slot] = new Castle();
        }
    }

    public int feed(int a, int b, int c, int d, int e) {
        if (!tape.hasRoomFor(20)) {
            return NONE;
        }
        tape.append(a);
        tape.append(b);
        tape.append(c);
        tape.append(d);
        tape.append(e);
        return tape.size;
    }

    public int back(int n) {
        if (n < 0 || n > tape.size) {
            return NONE;
        }
        tape.size -= n;
        return tape.size;
    }

    public int read() {
        int fault = reader.readText(tape);
        tape.size = 0;
        faultPlace = reader.place;
        if (fault == 0) {
            beginAnew();
        }
        return fault;
    }

    private void beginAnew() {
        plan.copyFrom(reader.plan);
        start.copyFrom(reader.castle);
        now.copyFrom(start);
        history.size = 0;
        for (int slot = 0; slot < SLOTS; slot++) {
            isHeld[slot] = false;
        }
        rumours.clear();
        noteChange();
    }

    public int place() {
        return faultPlace;
    }

    public int post(int post, int what) {
        if (!isPost(post)) {
            return NONE;
        }
        switch (what) {
            case 0: return now.above[post];
            case 1: return now.below[post];
            case 2: return now.watcher[post];
            case 3: return now.dried[post] ? 1 : 0;
            case 4: return now.turned[post];
            case 5: return plan.flow(now, post, plan.hourOf(now.minute));
            case 6: return now.byHand[post];
            default: return NONE;
        }
    }

    public int guard(int guard, int what) {
        if (!isGuard(guard)) {
            return NONE;
        }
        switch (what) {
            case 0: return now.station[guard];
            case 1: return now.slept[guard];
            case 2: return now.watch[guard];
            case 3: return now.placeInBed(guard);
            case 4: return now.beddings[guard];
            default: return NONE;
        }
    }

    public int run(int n) {
        if (n < 0 || n > MOST_MINUTES) {
            return NONE;
        }
        if (n > 0) {
            beginThing();
            now.passMany(plan, n);
        }
        return now.minute;
    }

    public boolean turn(int post) {
        if (!isPost(post)) {
            return false;
        }
        beginThing();
        now.exchange(post);
        return true;
    }

    public int shake(int post, int n) {
        if (!isPost(post) || n < 0) {
            return NONE;
        }
        beginThing();
        int up = Math.min(n, now.below[post]);
        now.below[post] -= up;
        now.above[post] += up;
        return up;
    }

    public boolean dry(int post, boolean on) {
        if (!isPost(post)) {
            return false;
        }
        beginThing();
        now.dried[post] = on;
        return true;
    }

    public int pinch(int post, int n) {
        if (!isPost(post)) {
            return NONE;
        }
        long then = (long) now.above[post] + n;
        if (then < 0 || then > MOST_GRAINS) {
            return NONE;
        }
        beginThing();
        now.above[post] += n;
        now.byHand[post] += n;
        return now.above[post];
    }

    public boolean send(int guard, int post) {
        if (!isGuard(guard) || !isPost(post)) {
            return false;
        }
        if (now.station[guard] != NOT || now.watcher[post] != NOT) {
            return false;
        }
        beginThing();
        now.leaveBed(now.placeInBed(guard));
        now.stand(guard, post);
        return true;
    }

    public boolean undo() {
        if (!history.giveBack(now)) {
            return false;
        }
        noteChange();
        return true;
    }

    public int out(int post) {
        if (!isPost(post)) {
            return NONE;
        }
        outlook.future.copyFrom(now);
        return outlook.minutesToOut(plan, post, MOST_MINUTES);
    }

    public int slept() {
        return dryings.asItIs(plan, now);
    }

    public int dryFirst(int what) {
        if (what != 0 && what != 1) {
            return NONE;
        }
        dryings.findFirst(plan, now, dryings.asItIs(plan, now));
        return what == 0 ? dryings.firstPost : dryings.firstMinutes;
    }

    public int dryTwo(int what) {
        if (what != 0 && what != 1) {
            return NONE;
        }
        dryings.findTwo(plan, now);
        return what == 0 ? dryings.twoPosts : dryings.twoMinutes;
    }

    public int bribe(int guard, int n) {
        if (!isGuard(guard) || n < 1 || n > 1000 || now.station[guard] == NOT) {
            return NONE;
        }
        return outlook.fewestGrains(plan, now, guard, n);
    }

    public int weak(int n, int what) {
        if (n < 1 || n > MOST_MINUTES || what < 0 || what > 1) {
            return NONE;
        }
        // At the end of a MINUTE all EMPTY POSTS are filled, or nobody is left in BED: too few GUARDS, or none EMPTY.
        boolean isWeak = plan.guards < plan.posts;
        if (what == 0) {
            return isWeak ? n : 0;
        }
        return isWeak ? 0 : NOT;
    }

    public int never(int n) {
        if (n < 1 || n > MOST_MINUTES) {
            return NONE;
        }
        outlook.goThrough(plan, now, n);
        return outlook.sleepless(plan, now);
    }

    public int spread(int n) {
        if (n < 0 || n > MOST_MINUTES) {
            return NONE;
        }
        outlook.goThrough(plan, now, n);
        return outlook.spreadOfSleep(plan);
    }

    public int shakeWorst(int n, int what) {
        if (n < 1 || n > 1000 || what < 0 || what > 1) {
            return NONE;
        }
        outlook.findWorst(plan, now, n);
        return what == 0 ? outlook.worstPost : outlook.worstGuards;
    }

    public int longest(int what) {
        if (what != 0 && what != 1) {
            return NONE;
        }
        int guard = now.longestOnWatch(plan.guards);
        if (what == 0 || guard == NOT) {
            return guard;
        }
        outlook.future.copyFrom(now);
        return outlook.minutesToBed(plan, guard, MOST_MINUTES);
    }

    public int rests(int u, int n, int i) {
        if (u < 1 || u > 99 || n < 1 || n > 300 || i < NONE) {
            return NONE;
        }
        game.findRests(plan, now, u, n);
        if (i == NONE) {
            return game.size;
        }
        return i < game.size ? game.sets[i] : NONE;
    }

    public int where(int guard, int n) {
        if (!isGuard(guard) || n < 0 || n > MOST_MINUTES) {
            return NONE;
        }
        outlook.goThrough(plan, now, n);
        return outlook.future.station[guard];
    }

    public int tell(int post, int minute) {
        if (!isPost(post) || minute < 0 || minute > MOST_MINUTES) {
            return NONE;
        }
        return rumours.add(post, minute);
    }

    public int forget() {
        int told = rumours.told;
        rumours.clear();
        return told;
    }

    public int tampered(int most, int k, int i) {
        if (most < 1 || most > Rumours.MOST_MORE || k < 0 || k > rumours.told || i < NONE) {
            return NONE;
        }
        rumours.findWays(plan, start, most, k);
        if (i == NONE) {
            return rumours.size;
        }
        return i < rumours.size ? rumours.ways[i] : NONE;
    }

    public boolean hold(int slot) {
        if (slot < 0 || slot >= SLOTS) {
            return false;
        }
        slots[slot].copyFrom(now);
        isHeld[slot] = true;
        return true;
    }

    public boolean restore(int slot) {
        if (slot < 0 || slot >= SLOTS || !isHeld[slot]) {
            return false;
        }
        now.copyFrom(slots[slot]);
        history.size = 0;
        noteChange();
        return true;
    }

    public int count(int what) {
        switch (what) {
            case 0: return plan.posts;
            case 1: return plan.guards;
            case 2: return now.minute;
            case 3: return now.lying;
            case 4: return now.emptyPosts(plan.posts);
            case 5: return plan.sleep;
            case 6: return plan.hours;
            case 7: return now.grains(plan.posts);
            case 8: return tape.size;
            case 9: return history.size;
            case 10: return rumours.told;
            case 11: return slotsHeld();
            case 12: return now.guardsWhoSlept(plan);
            default: return NONE;
        }
    }

    private int slotsHeld() {
        int held = 0;
        for (int slot = 0; slot < SLOTS; slot++) {
            held += isHeld[slot] ? 1 : 0;
        }
        return held;
    }

    private boolean isPost(int post) {
        return post >= 0 && post < plan.posts;
    }

    private boolean isGuard(int guard) {
        return guard >= 0 && guard < plan.guards;
    }

    private void beginThing() {
        history.keep(now);
        noteChange();
    }

    /** What was found out for the castle as it was is not to be told of the castle as it is. */
    private void noteChange() {
        dryings.forgetFound();
        game.isFound = false;
    }

    /** The bytes that wait to be read. */
    private static final class Tape {
        static final int MOST_BYTES = 2000;

        final byte[] bytes = new byte[MOST_BYTES];
        int size;

        boolean hasRoomFor(int more) {
            return size + more <= MOST_BYTES;
        }

        void append(int word) {
            if (!hasRoomFor(4)) {
                return;
            }
            for (int shift = 24; shift >= 0; shift -= 8) {
                bytes[size++] = (byte) (word >> shift);
            }
        }
    }

    /** A text cut into TOKENS; a sign's kind is its own byte. */
    private static final class Tokens {
        static final int END = 128;
        static final int NO_TOKEN = 129;
        static final int NAME = 130;
        static final int INT = 131;
        /** The words in quotes have kinds from here on, in the order of WORDS. */
        static final int FIRST_WORD = 132;
        static final int NECK = 132;
        static final int POST = 137;
        static final int GUARD = 138;
        static final int AT = 139;
        static final int FLOW = 140;
        static final int IF = 141;
        static final int THEN = 142;
        static final int ELSE = 143;
        static final int DAMP = 144;
        static final int SLEEP = 145;
        /** neck wet above below minute post guard at flow if then else damp sleep, a byte a letter. */
        private static final long[] WORDS = {
            0x6e65636bL, 0x776574L, 0x61626f7665L, 0x62656c6f77L, 0x6d696e757465L, 0x706f7374L,
            0x6775617264L, 0x6174L, 0x666c6f77L, 0x6966L, 0x7468656eL, 0x656c7365L,
            0x64616d70L, 0x736c656570L
        };
        /** One more than a text may have, so that the first too many is seen, and the end. */
        private static final int ROOM = MOST_TOKENS + 2;

        final int[] kinds = new int[ROOM];
        final int[] places = new int[ROOM];
        final int[] numbers = new int[ROOM];
        final long[] names = new long[ROOM];

        void cut(Tape tape) {
            int from = 0;
            int count = 0;
            for (int i = 0; i <= MOST_TOKENS; i++) {
                from = skipBlanks(tape, from);
                if (from >= tape.size) {
                    break;
                }
                from = addToken(tape, from, count);
                count++;
            }
            kinds[count] = END;
            places[count] = tape.size;
        }

        private static int skipBlanks(Tape tape, int from) {
            int at = from;
            while (at < tape.size && isBlank(tape.bytes[at])) {
                at++;
            }
            return at;
        }

        private int addToken(Tape tape, int from, int token) {
            places[token] = from;
            int sign = tape.bytes[from];
            if (isLetter(sign)) {
                return addWord(tape, from, token);
            }
            if (isDigit(sign)) {
                return addNumber(tape, from, token);
            }
            kinds[token] = isSign(sign) ? sign : NO_TOKEN;
            return from + 1;
        }

        private int addWord(Tape tape, int from, int token) {
            int to = from;
            long letters = 0;
            while (to < tape.size && isLetter(tape.bytes[to])) {
                letters = letters << 8 | tape.bytes[to];
                to++;
            }
            names[token] = letters;
            kinds[token] = to - from > 8 ? NO_TOKEN : kindOfWord(letters);
            return to;
        }

        private int addNumber(Tape tape, int from, int token) {
            int to = from;
            int number = 0;
            while (to < tape.size && isDigit(tape.bytes[to])) {
                number = number * 10 + tape.bytes[to] - '0';
                to++;
            }
            numbers[token] = number;
            kinds[token] = to - from > 4 ? NO_TOKEN : INT;
            return to;
        }

        private static int kindOfWord(long letters) {
            for (int word = 0; word < WORDS.length; word++) {
                if (WORDS[word] == letters) {
                    return FIRST_WORD + word;
                }
            }
            return NAME;
        }

        private static boolean isBlank(int sign) {
            return sign == 32 || sign == 9 || sign == 10 || sign == 13;
        }

        private static boolean isLetter(int sign) {
            return sign >= 'a' && sign <= 'z';
        }

        private static boolean isDigit(int sign) {
            return sign >= '0' && sign <= '9';
        }

        private static boolean isSign(int sign) {
            return sign == ';' || sign == '=' || sign == '<' || sign == '(' || sign == ')'
                || sign == '+' || sign == '-' || sign == '*' || sign == '/';
        }
    }

    /** Reads a text into a plan and a castle of its own, so that a FAULT leaves the told ones alone. */
    private static final class Reader {
        private static final int SYNTAX = 1;
        private static final int ROOM = 2;
        private static final int TWICE = 3;
        private static final int UNKNOWN = 4;
        private static final int WRONG = 5;
        private static final int MOST_IFS = 4;
        private static final int MOST_OPEN = 6;
        /** Of each ( and of the outside a ( itself, one + or -, one * or /; of units there are fewer. */
        private static final int MOST_WAITING = 3 * (MOST_OPEN + 1);

        final Plan plan = new Plan();
        /** Sand and places of the GUARDS are put in anew by each text; no minute ever goes by here. */
        final Castle castle = new Castle();
        int place;

        private final Tokens tokens = new Tokens();
        private final long[] names = new long[MOST_POSTS + MOST_GUARDS];
        private final long[] postNames = new long[MOST_POSTS];
        private final int[] waiting = new int[MOST_WAITING];
        private int waits;
        private final int[] unitsMade = new int[MOST_WAITING];
        private int units;
        private int told;
        private int token;
        private int fault;
        private int number;
        private long name;
        /** The first of the FAULTS that count only if syntax and room are well. */
        private int slip;
        private int slipPlace;

        int readText(Tape tape) {
            tokens.cut(tape);
            plan.clear();
            castle.leaveAll();
            told = 0;
            token = 0;
            fault = 0;
            slip = 0;
            place = NONE;
            for (int i = 0; i <= MOST_TOKENS && kind() != Tokens.END; i++) {
                if (!takeTell()) {
                    return fault;
                }
            }
            if (slip != 0) {
                place = slipPlace;
                return slip;
            }
            plan.settle();
            return 0;
        }

        private boolean takeTell() {
            switch (kind()) {
                case Tokens.POST: return takePost();
                case Tokens.GUARD: return takeGuard();
                case Tokens.FLOW: return takeFlow();
                case Tokens.DAMP: return takeDamp();
                case Tokens.SLEEP: return takeSleep();
                default: return refuse(SYNTAX);
            }
        }

        private boolean takePost() {
            if (plan.posts >= MOST_POSTS) {
                return refuse(ROOM);
            }
            if (!take(Tokens.POST) || !takeNewName()) {
                return false;
            }
            int post = plan.posts++;
            postNames[post] = name;
            if (!takeInt(999)) {
                return false;
            }
            castle.above[post] = number;
            if (!takeInt(999)) {
                return false;
            }
            castle.below[post] = number;
            if (!takeInt(99)) {
                return false;
            }
            plan.neck[post] = number;
            return take(';');
        }

        private boolean takeGuard() {
            if (plan.guards >= MOST_GUARDS) {
                return refuse(ROOM);
            }
            if (!take(Tokens.GUARD) || !takeNewName()) {
                return false;
            }
            int guard = plan.guards++;
            if (kind() != Tokens.AT) {
                castle.lieBehindAll(guard);
                return take(';');
            }
            return take(Tokens.AT) && takePostOf(guard) && take(';');
        }

        private boolean takePostOf(int guard) {
            int at = tokens.places[token];
            long wanted = tokens.names[token];
            if (!take(Tokens.NAME)) {
                return false;
            }
            int post = postNamed(wanted);
            if (post == NOT) {
                note(UNKNOWN, at);
            } else if (castle.watcher[post] != NOT) {
                note(TWICE, at);
            } else {
                castle.stand(guard, post);
            }
            return true;
        }

        private boolean takeDamp() {
            if (!take(Tokens.DAMP)) {
                return false;
            }
            plan.hours = 0;
            for (int i = 0; i <= MOST_DAMP && kind() == Tokens.INT; i++) {
                if (i == MOST_DAMP) {
                    return refuse(ROOM);
                }
                if (!takeInt(99)) {
                    return false;
                }
                plan.hours++;
                plan.wet[plan.hours] = number;
            }
            return take(';');
        }

        private boolean takeSleep() {
            if (!take(Tokens.SLEEP) || !takeInt(9999)) {
                return false;
            }
            plan.sleep = number;
            return take(';');
        }

        private boolean takeFlow() {
            if (!take(Tokens.FLOW) || !take('=')) {
                return false;
            }
            plan.law.clear();
            for (int ifs = 0; ifs <= MOST_IFS && kind() == Tokens.IF; ifs++) {
                if (ifs == MOST_IFS) {
                    return refuse(ROOM);
                }
                if (!takeIf()) {
                    return false;
                }
            }
            if (!takeSum()) {
                return false;
            }
            addEnd();
            return take(';');
        }

        private boolean takeIf() {
            if (!take(Tokens.IF) || !takeSum() || !take('<')) {
                return false;
            }
            int left = popUnit();
            if (!takeSum() || !take(Tokens.THEN)) {
                return false;
            }
            int less = plan.law.addStep(Law.LESS, left, popUnit());
            if (!takeSum() || !take(Tokens.ELSE)) {
                return false;
            }
            addEnd();
            plan.law.aimHere(less);
            return true;
        }

        private void addEnd() {
            int last = popUnit();
            plan.law.addStep(Law.END, last, last);
        }

        /** An E, whose number is then the only unit; signs wait until both units that they join are there. */
        private boolean takeSum() {
            int open = 0;
            boolean wantsUnit = true;
            waits = 0;
            units = 0;
            for (int i = 0; i <= MOST_TOKENS; i++) {
                int kind = kind();
                if (wantsUnit && kind == '(') {
                    if (open == MOST_OPEN) {
                        return refuse(ROOM);
                    }
                    open++;
                    letWait(kind);
                } else if (wantsUnit) {
                    if (!addUnit(kind)) {
                        return refuse(SYNTAX);
                    }
                    wantsUnit = false;
                } else if (rank(kind) > 0) {
                    release(rank(kind));
                    letWait(kind);
                    wantsUnit = true;
                } else if (kind == ')' && open > 0) {
                    release(1);
                    waits--;
                    open--;
                } else {
                    release(1);
                    return open == 0 || refuse(SYNTAX);
                }
                if (!take(kind)) {
                    return false;
                }
            }
            return refuse(ROOM);
        }

        private boolean addUnit(int kind) {
            if (kind == Tokens.INT) {
                pushUnit(plan.law.useInt(tokens.numbers[token]));
                return true;
            }
            if (kind >= Tokens.NECK && kind <= Tokens.POST) {
                pushUnit(plan.law.useVariable(Law.NECK + kind - Tokens.NECK));
                return true;
            }
            return false;
        }

        private void pushUnit(int unit) {
            if (units >= 0 && units < MOST_WAITING) {
                unitsMade[units++] = unit;
            }
        }

        private int popUnit() {
            if (units <= 0 || units > MOST_WAITING) {
                return Law.NECK;
            }
            units--;
            return unitsMade[units];
        }

        private void letWait(int sign) {
            if (waits >= 0 && waits < MOST_WAITING) {
                waiting[waits++] = sign;
            }
        }

        /** Waiting signs that bind as much as this rank, or more, join now, back to the last ( . */
        private void release(int rank) {
            while (waits > 0 && rank(waiting[waits - 1]) >= rank) {
                waits--;
                int right = popUnit();
                int left = popUnit();
                pushUnit(plan.law.addStep(opOf(waiting[waits]), left, right));
            }
        }

        private static int rank(int sign) {
            if (sign == '*' || sign == '/') {
                return 2;
            }
            return sign == '+' || sign == '-' ? 1 : 0;
        }

        private static int opOf(int sign) {
            switch (sign) {
                case '+': return Law.PLUS;
                case '-': return Law.MINUS;
                case '*': return Law.TIMES;
                default: return Law.BY;
            }
        }

        private boolean takeNewName() {
            int at = tokens.places[token];
            name = tokens.names[token];
            if (!take(Tokens.NAME)) {
                return false;
            }
            for (int i = 0; i < told; i++) {
                if (names[i] == name) {
                    note(TWICE, at);
                }
            }
            if (told < names.length) {
                names[told++] = name;
            }
            return true;
        }

        private boolean takeInt(int most) {
            int at = tokens.places[token];
            number = tokens.numbers[token];
            if (!take(Tokens.INT)) {
                return false;
            }
            if (number > most) {
                note(WRONG, at);
            }
            return true;
        }

        private int postNamed(long wanted) {
            for (int post = 0; post < plan.posts; post++) {
                if (postNames[post] == wanted) {
                    return post;
                }
            }
            return NOT;
        }

        private int kind() {
            return tokens.kinds[token];
        }

        /** Goes behind a TOKEN; one too many is looked at last, since of one place SYNTAX is told. */
        private boolean take(int kind) {
            if (kind() != kind) {
                return refuse(SYNTAX);
            }
            if (token >= MOST_TOKENS) {
                return refuse(ROOM);
            }
            token++;
            return true;
        }

        private boolean refuse(int why) {
            fault = why;
            place = tokens.places[token];
            return false;
        }

        private void note(int why, int at) {
            if (slip == 0) {
                slip = why;
                slipPlace = at;
            }
        }
    }

    /** FLOW as steps: each joins two numbers into one more, or goes on elsewhere, or ends with one of them. */
    private static final class Law {
        /** The first numbers are the variables, behind them stand the INTS, then what the steps make, one each. */
        static final int NECK = 0;
        static final int WET = 1;
        static final int ABOVE = 2;
        static final int BELOW = 3;
        static final int MINUTE = 4;
        static final int POST = 5;
        static final int PLUS = 0;
        static final int MINUS = 1;
        static final int TIMES = 2;
        static final int BY = 3;
        static final int LESS = 4;
        static final int END = 5;
        private static final int FIRST_INT = 6;
        private static final int FIRST_MADE = FIRST_INT + MOST_TOKENS;

        /** Whether a glass runs alike while the DAMP is alike. */
        boolean isSteady;
        boolean looksAtWet;

        private final int[] ops = new int[MOST_TOKENS];
        private final int[] lefts = new int[MOST_TOKENS];
        private final int[] rights = new int[MOST_TOKENS];
        /** Where an if that does not hold goes on. */
        private final int[] aims = new int[MOST_TOKENS];
        private final int[] numbers = new int[FIRST_MADE + MOST_TOKENS];
        private int steps;
        private int ints;

        void clear() {
            steps = 0;
            ints = 0;
            isSteady = true;
            looksAtWet = false;
        }

        /** Where a variable stands, which the law looks at from now on. */
        int useVariable(int variable) {
            isSteady = isSteady && variable != ABOVE && variable != BELOW && variable != MINUTE;
            looksAtWet = looksAtWet || variable == WET;
            return variable;
        }

        /** Where an INT stands from now on. */
        int useInt(int value) {
            if (ints >= MOST_TOKENS) {
                return NECK;
            }
            numbers[FIRST_INT + ints] = value;
            ints++;
            return FIRST_INT + ints - 1;
        }

        /** A step more: where the number that it makes stands. */
        int addStep(int op, int left, int right) {
            if (steps >= MOST_TOKENS) {
                return NECK;
            }
            ops[steps] = op;
            lefts[steps] = left;
            rights[steps] = right;
            steps++;
            return FIRST_MADE + steps - 1;
        }

        /** The if whose number stands there goes on, if it does not hold, with the step that comes next. */
        void aimHere(int made) {
            if (made >= FIRST_MADE && made < FIRST_MADE + steps) {
                aims[made - FIRST_MADE] = steps;
            }
        }

        void copyFrom(Law other) {
            System.arraycopy(other.ops, 0, ops, 0, other.steps);
            System.arraycopy(other.lefts, 0, lefts, 0, other.steps);
            System.arraycopy(other.rights, 0, rights, 0, other.steps);
            System.arraycopy(other.aims, 0, aims, 0, other.steps);
            System.arraycopy(other.numbers, 0, numbers, 0, FIRST_INT + other.ints);
            steps = other.steps;
            ints = other.ints;
            isSteady = other.isSteady;
            looksAtWet = other.looksAtWet;
        }

        int value(int neck, int wet, int above, int below, int minute, int post) {
            int[] all = numbers;
            all[NECK] = neck;
            all[WET] = wet;
            all[ABOVE] = above;
            all[BELOW] = below;
            all[MINUTE] = minute;
            all[POST] = post;
            for (int i = 0; i < steps; i++) {
                int left = all[lefts[i]];
                int right = all[rights[i]];
                switch (ops[i]) {
                    case PLUS: all[FIRST_MADE + i] = left + right; break;
                    case MINUS: all[FIRST_MADE + i] = left - right; break;
                    case TIMES: all[FIRST_MADE + i] = left * right; break;
                    case BY:
                        if (right == 0) {
                            return 0;
                        }
                        all[FIRST_MADE + i] = left / right;
                        break;
                    case LESS:
                        if (left >= right && aims[i] > i) {
                            i = aims[i] - 1;
                        }
                        break;
                    default: return left;
                }
            }
            return 0;
        }
    }

    /** What a text tells that no minute changes. */
    private static final class Plan {
        private static final int WETS = MOST_DAMP + 1;

        final int[] neck = new int[MOST_POSTS];
        /** At 0 the DAMP of a POST that is DRIED, behind it that of the hours. */
        final int[] wet = new int[WETS];
        final Law law = new Law();
        int posts;
        int guards;
        int hours;
        int sleep = 60;
        /** Whether it can make a difference that a POST is DRIED. */
        boolean isDampFelt;

        /** What a steady law tells, by POST and place in wet. */
        private final int[] rates = new int[MOST_POSTS * WETS];

        void clear() {
            posts = 0;
            guards = 0;
            hours = 0;
            sleep = 60;
            law.clear();
            law.addStep(Law.END, Law.NECK, Law.NECK);
        }

        /** What follows from all that was told. */
        void settle() {
            isDampFelt = law.looksAtWet && hours > 0;
            if (!law.isSteady) {
                return;
            }
            for (int post = 0; post < posts; post++) {
                for (int hour = 0; hour <= hours; hour++) {
                    rates[post * WETS + hour] = law.value(neck[post], wet[hour], 0, 0, 0, post);
                }
            }
        }

        void copyFrom(Plan other) {
            System.arraycopy(other.neck, 0, neck, 0, MOST_POSTS);
            System.arraycopy(other.wet, 0, wet, 0, WETS);
            System.arraycopy(other.rates, 0, rates, 0, rates.length);
            law.copyFrom(other.law);
            posts = other.posts;
            guards = other.guards;
            hours = other.hours;
            sleep = other.sleep;
            isDampFelt = other.isDampFelt;
        }

        /** The place in wet of a minute's DAMP. */
        int hourOf(int minute) {
            return hours > 0 ? 1 + minute / 60 % hours : 0;
        }

        /** FLOW now, held; the hour is the minute's place in wet. */
        int flow(Castle castle, int post, int hour) {
            int all = castle.above[post];
            if (all == 0) {
                return 0;
            }
            int damp = castle.dried[post] ? 0 : hour;
            int told = law.isSteady
                ? rates[post * WETS + damp]
                : law.value(neck[post], wet[damp], all, castle.below[post], castle.minute, post);
            if (told < 0) {
                return 0;
            }
            return told < all ? told : all;
        }
    }

    /** POSTS, GUARDS, BED and the minute. */
    private static final class Castle {
        final int[] above = new int[MOST_POSTS];
        final int[] below = new int[MOST_POSTS];
        final int[] watcher = new int[MOST_POSTS];
        final boolean[] dried = new boolean[MOST_POSTS];
        final int[] turned = new int[MOST_POSTS];
        final int[] byHand = new int[MOST_POSTS];
        final int[] station = new int[MOST_GUARDS];
        final int[] slept = new int[MOST_GUARDS];
        final int[] watch = new int[MOST_GUARDS];
        final int[] beddings = new int[MOST_GUARDS];
        final int[] bed = new int[MOST_GUARDS];
        int lying;
        int minute;
        /** Bits of the POSTS to which one came in the latest minute. */
        int comings;

        private final int[] flows = new int[MOST_POSTS];

        Castle() {
            leaveAll();
        }

        /** Nobody is at a POST, nobody in BED. */
        void leaveAll() {
            for (int post = 0; post < MOST_POSTS; post++) {
                watcher[post] = NOT;
            }
            for (int guard = 0; guard < MOST_GUARDS; guard++) {
                station[guard] = NOT;
            }
            lying = 0;
        }

        void copyFrom(Castle other) {
            System.arraycopy(other.above, 0, above, 0, MOST_POSTS);
            System.arraycopy(other.below, 0, below, 0, MOST_POSTS);
            System.arraycopy(other.watcher, 0, watcher, 0, MOST_POSTS);
            System.arraycopy(other.dried, 0, dried, 0, MOST_POSTS);
            System.arraycopy(other.turned, 0, turned, 0, MOST_POSTS);
            System.arraycopy(other.byHand, 0, byHand, 0, MOST_POSTS);
            System.arraycopy(other.station, 0, station, 0, MOST_GUARDS);
            System.arraycopy(other.slept, 0, slept, 0, MOST_GUARDS);
            System.arraycopy(other.watch, 0, watch, 0, MOST_GUARDS);
            System.arraycopy(other.beddings, 0, beddings, 0, MOST_GUARDS);
            System.arraycopy(other.bed, 0, bed, 0, MOST_GUARDS);
            lying = other.lying;
            minute = other.minute;
        }

        void passMany(Plan plan, int minutes) {
            for (int gone = 0; gone < minutes; ) {
                gone += Math.max(1, passSome(plan, minutes - gone));
            }
        }

        /**
         * Minutes go by, most at most: quiet ones, in which nobody can move and sand runs evenly, and behind them
         * one in which somebody may come: how many did (1 and more).
         */
        int passSome(Plan plan, int most) {
            int limit = plan.hours > 1 ? Math.min(most, 60 - minute % 60) : most;
            int quiet = lookAhead(plan, limit);
            int minutes = Math.min(quiet + 1, limit);
            for (int post = 0; post < plan.posts; post++) {
                if (flows[post] > 0) {
                    long sand = (long) flows[post] * minutes;
                    runDown(post, (int) Math.min(sand, above[post]));
                }
            }
            comings = 0;
            if (quiet > 0) {
                countMinutes(plan.guards, quiet);
            }
            if (minutes > quiet) {
                relieveAll(plan.posts);
                fillAll(plan.posts);
                countMinutes(plan.guards, 1);
            }
            return minutes;
        }

        /** Finds what flows now: for how many of the next minutes, limit at most, it is sure that nobody moves. */
        private int lookAhead(Plan plan, int limit) {
            int quiet = limit;
            int hour = plan.hourOf(minute);
            int ahead = plan.posts - 1;
            for (int post = 0; post < plan.posts; post++) {
                flows[post] = plan.flow(this, post, hour);
                if (quiet > 0) {
                    quiet = Math.min(quiet, quietAt(post, ahead, plan.law.isSteady));
                }
                ahead = post;
            }
            return quiet;
        }

        private int quietAt(int post, int ahead, boolean isSteady) {
            if (above[post] > 0 && !isSteady || watcher[post] == NOT && lying > 0) {
                return 0;
            }
            if (comer(post, ahead) == NOT) {
                return Integer.MAX_VALUE;
            }
            if (flows[post] == 0) {
                return above[post] == 0 ? 0 : Integer.MAX_VALUE;
            }
            return (above[post] - 1) / flows[post];
        }

        private void relieveAll(int posts) {
            int ahead = posts - 1;
            for (int post = 0; post < posts; post++) {
                if (above[post] == 0) {
                    relieve(post, ahead);
                }
                ahead = post;
            }
        }

        private void fillAll(int posts) {
            for (int post = 0; post < posts && lying > 0; post++) {
                if (watcher[post] == NOT) {
                    stand(leaveBed(0), post);
                }
            }
        }

        void runDown(int post, int sand) {
            above[post] -= sand;
            below[post] += sand;
        }

        private void countMinutes(int guards, int minutes) {
            for (int guard = 0; guard < guards; guard++) {
                if (station[guard] == NOT) {
                    slept[guard] += minutes;
                } else {
                    watch[guard] += minutes;
                }
            }
            minute += minutes;
        }

        /** Who would come to a POST from the one ahead if its glass were out; NOT if nobody would. */
        private int comer(int post, int ahead) {
            int tired = watcher[post];
            return tired == NOT || watcher[ahead] == tired ? NOT : watcher[ahead];
        }

        private void relieve(int post, int ahead) {
            int comer = comer(post, ahead);
            if (comer == NOT) {
                return;
            }
            int tired = watcher[post];
            above[post] = below[post];
            below[post] = 0;
            turned[post]++;
            comings |= 1 << post;
            watcher[ahead] = NOT;
            stand(comer, post);
            // The first of BED is called before the tired one lies down: he may not be that one.
            if (lying > 0) {
                stand(leaveBed(0), ahead);
            }
            beddings[tired]++;
            lieBehindAll(tired);
        }

        void stand(int guard, int post) {
            watcher[post] = guard;
            station[guard] = post;
            watch[guard] = 0;
        }

        void lieBehindAll(int guard) {
            station[guard] = NOT;
            watch[guard] = 0;
            if (lying < MOST_GUARDS) {
                bed[lying++] = guard;
            }
        }

        /** Who lies at a place gets up, and all behind him move up. */
        int leaveBed(int place) {
            if (place < 0 || place >= lying) {
                return 0;
            }
            int guard = bed[place];
            lying--;
            for (int i = place; i < lying; i++) {
                bed[i] = bed[i + 1];
            }
            return guard;
        }

        int placeInBed(int guard) {
            for (int i = 0; i < lying; i++) {
                if (bed[i] == guard) {
                    return i;
                }
            }
            return NOT;
        }

        void exchange(int post) {
            int up = below[post];
            below[post] = above[post];
            above[post] = up;
        }

        int emptyPosts(int posts) {
            int empty = 0;
            for (int post = 0; post < posts; post++) {
                empty += watcher[post] == NOT ? 1 : 0;
            }
            return empty;
        }

        int grains(int posts) {
            int grains = 0;
            for (int post = 0; post < posts; post++) {
                grains += above[post] + below[post];
            }
            return grains;
        }

        int guardsWhoSlept(Plan plan) {
            int sleepers = 0;
            for (int guard = 0; guard < plan.guards; guard++) {
                sleepers += slept[guard] >= plan.sleep ? 1 : 0;
            }
            return sleepers;
        }

        /** How many minutes he needs most who needs most until he has slept SLEEP (0: all have). */
        int sleepWanted(Plan plan) {
            int wanted = 0;
            for (int guard = 0; guard < plan.guards; guard++) {
                wanted = Math.max(wanted, plan.sleep - slept[guard]);
            }
            return wanted;
        }

        int longestOnWatch(int guards) {
            int longest = NOT;
            for (int guard = 0; guard < guards; guard++) {
                if (station[guard] != NOT && (longest == NOT || watch[guard] > watch[longest])) {
                    longest = guard;
                }
            }
            return longest;
        }
    }

    /** The castle ahead of each of the last things done. */
    private static final class History {
        private static final int MOST_KEPT = 40;

        int size;

        private final Castle[] kept = new Castle[MOST_KEPT];
        private int next;

        History() {
            for (int i = 0; i < MOST_KEPT; i++) {
                kept[i] = new Castle();
            }
        }

        void keep(Castle castle) {
            kept[next].copyFrom(castle);
            next = (next + 1) % MOST_KEPT;
            size = Math.min(size + 1, MOST_KEPT);
        }

        boolean giveBack(Castle castle) {
            if (size == 0) {
                return false;
            }
            size--;
            next = (next + MOST_KEPT - 1) % MOST_KEPT;
            castle.copyFrom(kept[next]);
            return true;
        }
    }

    /** What would be, gone through on a copy. */
    private static final class Outlook {
        final Castle future = new Castle();
        int worstPost;
        int worstGuards;

        void goThrough(Plan plan, Castle now, int minutes) {
            future.copyFrom(now);
            future.passMany(plan, minutes);
        }

        /** One glass alone is enough: until it is out for the first time nobody comes to turn it. */
        int minutesToOut(Plan plan, int post, int most) {
            for (int minutes = 0; minutes <= most; minutes++) {
                if (future.above[post] == 0) {
                    return minutes;
                }
                future.runDown(post, plan.flow(future, post, plan.hourOf(future.minute)));
                future.minute++;
            }
            return NOT;
        }

        int minutesToBed(Plan plan, int guard, int most) {
            int before = future.beddings[guard];
            for (int minutes = 0; minutes < most; ) {
                minutes += Math.max(1, future.passSome(plan, most - minutes));
                if (future.beddings[guard] != before) {
                    return minutes;
                }
            }
            return NOT;
        }

        /** While his glass is not out at all it moves nobody: one such try in vain stands for all of them. */
        int fewestGrains(Plan plan, Castle now, int guard, int most) {
            int post = now.station[guard];
            if (post < 0) {
                return NOT;
            }
            boolean isWaitingVain = false;
            for (int grains = 0; grains <= now.above[post]; grains++) {
                boolean waits = !plan.law.isSteady && isNotOut(plan, now, post, grains, most);
                if (waits && isWaitingVain) {
                    continue;
                }
                future.copyFrom(now);
                future.above[post] -= grains;
                if (minutesToBed(plan, guard, most) != NOT) {
                    return grains;
                }
                isWaitingVain = isWaitingVain || waits;
            }
            return NOT;
        }

        private boolean isNotOut(Plan plan, Castle now, int post, int grains, int most) {
            future.copyFrom(now);
            future.above[post] -= grains;
            return minutesToOut(plan, post, most) == NOT;
        }

        int sleepless(Plan plan, Castle now) {
            int bits = 0;
            for (int guard = 0; guard < plan.guards; guard++) {
                bits |= future.slept[guard] == now.slept[guard] ? 1 << guard : 0;
            }
            return bits;
        }

        int spreadOfSleep(Plan plan) {
            if (plan.guards == 0) {
                return NOT;
            }
            int least = future.slept[0];
            int greatest = future.slept[0];
            for (int guard = 1; guard < plan.guards; guard++) {
                least = Math.min(least, future.slept[guard]);
                greatest = Math.max(greatest, future.slept[guard]);
            }
            return greatest - least;
        }

        void findWorst(Plan plan, Castle now, int minutes) {
            worstPost = NOT;
            worstGuards = NOT;
            for (int post = 0; post < plan.posts; post++) {
                future.copyFrom(now);
                future.exchange(post);
                future.passMany(plan, minutes);
                int sleepers = future.guardsWhoSlept(plan);
                if (worstPost == NOT || sleepers < worstGuards) {
                    worstPost = post;
                    worstGuards = sleepers;
                }
            }
        }
    }

    /** By when all have SLEPT, as it is and with POSTS DRIED; found once for each state of the castle. */
    private static final class Dryings {
        private static final int MOST_AHEAD = 3000;

        int firstPost;
        int firstMinutes;
        int twoPosts;
        int twoMinutes;

        private final Castle future = new Castle();
        private int foundAsItIs;
        private boolean isAsItIsFound;
        private boolean isFirstFound;
        private boolean isTwoFound;

        void forgetFound() {
            isAsItIsFound = false;
            isFirstFound = false;
            isTwoFound = false;
        }

        int asItIs(Plan plan, Castle now) {
            if (!isAsItIsFound) {
                future.copyFrom(now);
                foundAsItIs = soonest(plan, MOST_AHEAD);
                isAsItIsFound = true;
            }
            return foundAsItIs;
        }

        void findFirst(Plan plan, Castle now, int minutesAsItIs) {
            if (isFirstFound) {
                return;
            }
            firstPost = NOT;
            firstMinutes = minutesAsItIs;
            for (int post = 0; post < plan.posts && plan.isDampFelt; post++) {
                if (!now.dried[post]) {
                    tryOne(plan, now, post);
                }
            }
            isFirstFound = true;
        }

        private void tryOne(Plan plan, Castle now, int post) {
            future.copyFrom(now);
            future.dried[post] = true;
            int minutes = soonest(plan, mostThatIsSooner(firstMinutes));
            if (minutes != NOT) {
                firstPost = post;
                firstMinutes = minutes;
            }
        }

        void findTwo(Plan plan, Castle now) {
            if (isTwoFound) {
                return;
            }
            twoPosts = NOT;
            twoMinutes = NOT;
            int tries = 0;
            for (int lesser = 0; lesser < plan.posts; lesser++) {
                for (int other = lesser + 1; other < plan.posts; other++) {
                    // Where DAMP is not felt all pairs are alike, and the first of them is told.
                    if (!now.dried[lesser] && !now.dried[other] && (tries == 0 || plan.isDampFelt)) {
                        tryTwo(plan, now, lesser, other);
                        tries++;
                    }
                }
            }
            isTwoFound = true;
        }

        private void tryTwo(Plan plan, Castle now, int lesser, int other) {
            future.copyFrom(now);
            future.dried[lesser] = true;
            future.dried[other] = true;
            int minutes = soonest(plan, mostThatIsSooner(twoMinutes));
            if (minutes != NOT) {
                twoPosts = 10 * lesser + other;
                twoMinutes = minutes;
            }
        }

        private static int mostThatIsSooner(int minutes) {
            return minutes == NOT ? MOST_AHEAD : minutes - 1;
        }

        private int soonest(Plan plan, int most) {
            for (int minutes = 0; minutes <= most; ) {
                int wanted = future.sleepWanted(plan);
                if (wanted == 0) {
                    return minutes;
                }
                if (wanted > most - minutes) {
                    return NOT;
                }
                minutes += Math.max(1, future.passSome(plan, wanted));
            }
            return NOT;
        }
    }

    /** PINCHES; the sets that rest are found once for each state of the castle, u and n. */
    private static final class Game {
        private static final int SETS = 1 << MOST_POSTS;

        final int[] sets = new int[SETS];
        int size;
        boolean isFound;

        private final Castle future = new Castle();
        /** By set and POST: how long the GUARD of that POST has slept in the end. */
        private final int[] sleeps = new int[SETS * MOST_POSTS];
        private int foundU;
        private int foundN;

        void findRests(Plan plan, Castle now, int u, int n) {
            if (isFound && foundU == u && foundN == n) {
                return;
            }
            int players = players(plan, now);
            for (int set = 0; set < 1 << plan.posts; set++) {
                if ((set & ~players) == 0) {
                    future.copyFrom(now);
                    putPinches(plan.posts, set, u);
                    future.passMany(plan, n);
                    noteSleeps(plan.posts, now, set);
                }
            }
            size = 0;
            for (int set = 0; set < 1 << plan.posts; set++) {
                if ((set & ~players) == 0 && isAtRest(plan.posts, players, set)) {
                    sets[size++] = set;
                }
            }
            isFound = true;
            foundU = u;
            foundN = n;
        }

        private static int players(Plan plan, Castle now) {
            int bits = 0;
            for (int post = 0; post < plan.posts; post++) {
                bits |= now.watcher[post] == NOT ? 0 : 1 << post;
            }
            return bits;
        }

        private void putPinches(int posts, int set, int u) {
            for (int post = 0; post < posts; post++) {
                if ((set >> post & 1) == 1) {
                    int behind = post + 1 == posts ? 0 : post + 1;
                    int all = future.above[behind];
                    future.above[behind] = Math.max(all, Math.min(all + u, MOST_GRAINS));
                }
            }
        }

        private void noteSleeps(int posts, Castle now, int set) {
            for (int post = 0; post < posts; post++) {
                int guard = now.watcher[post];
                sleeps[set * MOST_POSTS + post] = guard == NOT ? 0 : future.slept[guard];
            }
        }

        private boolean isAtRest(int posts, int players, int set) {
            for (int post = 0; post < posts; post++) {
                int other = set ^ 1 << post;
                if ((players >> post & 1) == 1
                    && sleeps[other * MOST_POSTS + post] > sleeps[set * MOST_POSTS + post]) {
                    return false;
                }
            }
            return true;
        }
    }

    /** What is TOLD, and the ways to tamper that go with it; found once for each most and k. */
    private static final class Rumours {
        static final int MOST_MORE = 200;
        private static final int MOST_TOLD = 20;

        final int[] ways = new int[MOST_POSTS * MOST_MORE + 1];
        int size;
        int told;

        private final Castle future = new Castle();
        private final int[] toldPosts = new int[MOST_TOLD];
        private final int[] toldMinutes = new int[MOST_TOLD];
        /** By minute: bits of the POSTS to which one must come then. */
        private final int[] due = new int[MOST_MINUTES + 1];
        private boolean isFound;
        private int foundMost;
        private int foundK;

        int add(int post, int minute) {
            if (told >= MOST_TOLD) {
                return NONE;
            }
            toldPosts[told] = post;
            toldMinutes[told] = minute;
            return told++;
        }

        void clear() {
            told = 0;
            isFound = false;
        }

        void findWays(Plan plan, Castle start, int most, int k) {
            if (isFound && foundMost == most && foundK == k) {
                return;
            }
            int minutes = setDue(k);
            size = 0;
            for (int post = 0; post < plan.posts; post++) {
                for (int more = post == 0 ? 0 : 1; more <= most; more++) {
                    future.copyFrom(start);
                    future.above[post] += more;
                    if (comesAsDue(plan, minutes)) {
                        ways[size++] = 1000 * post + more;
                    }
                }
            }
            isFound = true;
            foundMost = most;
            foundK = k;
        }

        /** Sets what the first k ask for: how many minutes they span. */
        private int setDue(int k) {
            for (int minute = 0; minute <= MOST_MINUTES; minute++) {
                due[minute] = 0;
            }
            int minutes = 0;
            for (int i = 0; i < k && i < told; i++) {
                due[toldMinutes[i]] |= 1 << toldPosts[i];
                minutes = Math.max(minutes, toldMinutes[i] + 1);
            }
            return minutes;
        }

        /** Whether one was due in the minutes before the last one, when nobody came, or in that one, and did not come. */
        private boolean isMissed(int first, int last) {
            for (int minute = first; minute < last && minute <= MOST_MINUTES; minute++) {
                if (due[minute] != 0) {
                    return true;
                }
            }
            return last <= MOST_MINUTES && (due[last] & ~future.comings) != 0;
        }

        private boolean comesAsDue(Plan plan, int minutes) {
            for (int minute = 0; minute < minutes; ) {
                int gone = Math.max(1, future.passSome(plan, minutes - minute));
                minute += gone;
                if (isMissed(minute - gone, minute - 1)) {
                    return false;
                }
            }
            return true;
        }
    }
}
