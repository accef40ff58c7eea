import java.util.Random;

/** Calls with any arguments in any state, 512 an object: none may throw. The seeds are fixed. */
public final class NeverThrows {
    private static final String[] BITS = {"post ", "guard ", "at ", "flow = ", "if ", "then ", "else ", "damp ", "sleep ", "neck ",
        "wet ", "above ", "below ", "minute ", "a ", "b ", "c ", "abcdefgh ", "abcdefghi ", "1 ", "0 ", "999 ", "9999 ", "12345 ", "; ",
        "= ", "+ ", "- ", "* ", "/ ", "< ", "( ", ") ", "((((((", "))))))", ". ", "A", "\n", "\0", "\u00ff", "post a 5 0 1;",
        "post b 3 4 2;", "post c 9 9 0;", "guard x at a;", "guard y at b;", "guard z;", "guard w;", "damp 1 2 3;",
        "flow = above / (wet - 1);", "flow = neck * 9999 * 9999 / (below - 3);", "sleep 3;"};
    private static final int[] EDGES = {Integer.MIN_VALUE, Integer.MIN_VALUE + 1, -10000, -2001, -2, -1, 0, 1, 2, 3, 4, 5, 7, 8, 9, 11, 12,
        13, 20, 40, 99, 100, 200, 201, 300, 301, 1000, 1001, 2000, 2001, 9999, 10000, Integer.MAX_VALUE - 1, Integer.MAX_VALUE};

    private final Random random;
    private final SandGuards x = new SandGuards();

    private NeverThrows(long seed) {
        random = new Random(seed);
    }

    public static void main(String[] args) {
        for (long seed = 1; seed <= 120; seed++) {
            NeverThrows run = new NeverThrows(seed);
            try {
                for (int i = 0; i < 512; i++) {
                    run.call();
                }
            } catch (RuntimeException | Error thrown) {
                System.out.println("seed " + seed + " threw " + thrown);
                thrown.printStackTrace(System.out);
                System.exit(1);
            }
        }
        System.out.println("no call threw");
    }

    private int any() {
        int kind = random.nextInt(10);
        return kind == 0 ? random.nextInt() : kind < 4 ? EDGES[random.nextInt(EDGES.length)] : random.nextInt(4);
    }

    private void feedText() {
        StringBuilder text = new StringBuilder();
        int bits = random.nextInt(60);
        for (int i = 0; i < bits; i++) {
            text.append(BITS[random.nextInt(3) > 0 ? BITS.length - 1 - random.nextInt(11) : random.nextInt(BITS.length)]);
        }
        for (int at = 0; at < text.length(); at += 20) {
            int[] words = new int[5];
            for (int i = 0; i < 20; i++) {
                words[i / 4] = words[i / 4] << 8 | (at + i < text.length() ? text.charAt(at + i) : ' ');
            }
            x.feed(words[0], words[1], words[2], words[3], words[4]);
        }
    }

    private void feedGood() {
        x.read();
        String text = "post a 5 0 1;post b 3 4 2;post c 9 9 0;guard x at a;guard y at b;guard z;guard w;damp 1 0;sleep 3;    ";
        for (int at = 0; at + 20 <= text.length(); at += 20) {
            int[] words = new int[5];
            for (int i = 0; i < 20; i++) {
                words[i / 4] = words[i / 4] << 8 | text.charAt(at + i);
            }
            x.feed(words[0], words[1], words[2], words[3], words[4]);
        }
        x.read();
    }

    private void call() {
        switch (random.nextInt(34)) {
            case 0: x.feed(any(), any(), any(), any(), any()); break;
            case 1: feedText(); break;
            case 2: x.back(any()); break;
            case 3: x.read(); break;
            case 4: feedGood(); break;
            case 5: x.place(); break;
            case 6: x.post(any(), any()); break;
            case 7: x.guard(any(), any()); break;
            case 8: x.run(any()); break;
            case 9: x.turn(any()); break;
            case 10: x.shake(any(), any()); break;
            case 11: x.dry(any(), random.nextBoolean()); break;
            case 12: x.pinch(any(), any()); break;
            case 13: x.send(any(), any()); break;
            case 14: x.undo(); break;
            case 15: x.out(any()); break;
            case 16: x.slept(); break;
            case 17: x.dryFirst(any()); break;
            case 18: x.dryTwo(any()); break;
            case 19: x.bribe(any(), Math.min(any(), 300)); break;
            case 20: x.weak(any(), any()); break;
            case 21: x.never(any()); break;
            case 22: x.spread(any()); break;
            case 23: x.shakeWorst(any(), any()); break;
            case 24: x.longest(any()); break;
            case 25: x.rests(any(), any(), any()); break;
            case 26: x.where(any(), any()); break;
            case 27: case 28: x.tell(any(), any()); break;
            case 29: x.forget(); break;
            case 30: x.tampered(any(), any(), any()); break;
            case 31: x.hold(any()); break;
            case 32: x.restore(any()); break;
            default: x.count(any()); break;
        }
    }
}
