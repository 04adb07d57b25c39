import java.util.Random;

/** Runs with arguments of all sizes in states of all kinds: each call must come back. */
public final class NeverThrowsTest {
    private static final int RUNS = 400;
    private static final int CALLS = 512;
    private static final int[] EDGES = {Integer.MIN_VALUE, Integer.MIN_VALUE + 1, -1000, -2, -1, 0, 1, 2, 5, 6, 7, 8, 9, 10, 12,
        13, 14, 23, 24, 25, 30, 31, 33, 34, 40, 63, 64, 99, 100, 400, 401, 999, 1000, 46655, 46656, 1 << 30, Integer.MAX_VALUE};

    private final Random random;
    private final Talk talk = new Talk("never throws");
    private final TextMaker texts;

    private NeverThrowsTest(long seed) {
        random = new Random(seed);
        texts = new TextMaker(random);
    }

    public static void main(String[] args) {
        for (long seed = 1; seed <= RUNS; seed++) {
            try {
                new NeverThrowsTest(seed).run();
            } catch (RuntimeException | StackOverflowError thrown) {
                thrown.printStackTrace(System.out);
                System.out.println("NeverThrowsTest: thrown in run " + seed);
                System.exit(1);
            }
        }
        System.out.println("NeverThrowsTest: " + RUNS + " runs came back");
    }

    private int any() {
        int kind = random.nextInt(20);
        if (kind == 0) {
            return random.nextInt();
        }
        return kind < 4 ? EDGES[random.nextInt(EDGES.length)] : random.nextInt(kind < 12 ? 6 : 24);
    }

    private void run() {
        for (int k = 0; k < 6; k++) {
            talk.tell(k, texts.compactShape(1 + random.nextInt(24)));
            talk.x.wall(k, random.nextInt(6));
            talk.x.fill(k, random.nextInt(4));
        }
        for (int k = 6; k < 9; k++) {
            talk.tell(k, cut(texts.rule()));
        }
        for (int i = 0; i < CALLS; i++) {
            call(random.nextInt(33));
        }
    }

    private static String cut(String text) {
        return text.length() > 400 ? text.substring(0, 400) : text;
    }

    private void call(int which) {
        OldNeighbours x = talk.x;
        switch (which) {
            case 0 -> x.state(random.nextInt());
            case 1 -> x.feed(random.nextInt(), any(), random.nextInt(), any(), random.nextInt());
            case 2 -> x.end(any());
            case 3 -> x.text(any());
            case 4 -> x.fault(any());
            case 5 -> x.cell(any(), any(), any());
            case 6 -> x.set(any(), any());
            case 7 -> x.wall(any(), any());
            case 8 -> x.lay(any(), any(), any());
            case 9 -> x.fill(any(), any());
            case 10 -> x.at(any(), any());
            case 11 -> x.beside(any(), any());
            case 12 -> x.good(any(), any(), any());
            case 13 -> x.judge(any(), any());
            case 14, 15 -> x.again(any(), any(), any(), any(), any());
            case 16, 17 -> x.years(any(), any(), any());
            case 18 -> x.history(any(), any());
            case 19 -> x.met(any());
            case 20 -> x.two(any(), any(), any());
            case 21 -> x.parting(any(), any());
            case 22 -> x.layings(any(), any(), any());
            case 23 -> x.order(any(), any(), any());
            case 24 -> x.borne(any(), any());
            case 25 -> x.spares(any());
            case 26 -> x.door(any(), any(), any());
            case 27 -> x.older(any(), any(), any());
            case 28 -> x.red(any(), any());
            case 29 -> x.image(random.nextBoolean());
            case 30 -> x.look(any());
            case 31 -> talk.tell(random.nextInt(9), cut(texts.spoil(texts.rule())));
            default -> talk.tell(random.nextInt(6), cut(texts.spoil(texts.shape(40))));
        }
    }
}
