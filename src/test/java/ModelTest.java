import java.util.Random;

/** Runs of calls made by chance, answered by the class as by the model. */
public final class ModelTest {
    private static final int CALLS = 512;
    private static final int[] ODD = {Integer.MIN_VALUE, Integer.MIN_VALUE + 9, -3, -2, -1, 24, 25, 99, 100, Integer.MAX_VALUE};

    private final Random random;
    private final TextMaker texts;
    private final OldNeighbours mine = new OldNeighbours();
    private final Model model = new Model();
    private final StringBuilder told = new StringBuilder();
    private final int size;
    private int calls;
    private boolean wrong;

    private ModelTest(long seed) {
        random = new Random(seed);
        texts = new TextMaker(random);
        size = random.nextInt(3) == 0 ? 3 + random.nextInt(5) : 3 + random.nextInt(22);
    }

    public static void main(String[] args) {
        long first = args.length > 0 ? Long.parseLong(args[0]) : 1;
        long last = args.length > 1 ? Long.parseLong(args[1]) : 150;
        int wrongRuns = 0;
        for (long seed = first; seed <= last && wrongRuns < 3; seed++) {
            ModelTest run = new ModelTest(seed);
            if (seed % 3 == 0) {
                run.mendRun();
            } else {
                run.run();
            }
            if (run.wrong) {
                wrongRuns++;
                System.out.println("run " + seed + ":\n" + run.told);
            }
        }
        System.out.println("ModelTest: runs " + first + " to " + last + ", wrong ones: " + wrongRuns);
        if (wrongRuns > 0) {
            System.exit(1);
        }
    }

    private int below(int n) {
        return random.nextInt(n);
    }

    /** Mostly a number below n, now and then one that can't be. */
    private int arg(int n) {
        return below(40) == 0 ? ODD[below(ODD.length)] : below(30) == 0 ? n : below(Math.max(1, n));
    }

    private int cellArg(int w) {
        return arg(Math.max(1, w >= 0 && w < 6 ? model.look(20 + w) : 1));
    }

    private int due(String call, int got, int want) {
        calls++;
        told.append(call).append(" -> ").append(got);
        if (got != want) {
            told.append(", due is ").append(want);
            wrong = true;
        }
        told.append('\n');
        return want;
    }

    private int due(String call, boolean got, boolean want) {
        return due(call, got ? 1 : 0, want ? 1 : 0);
    }

    private void run() {
        for (int k = 0; k < 6; k++) {
            tell(k, below(2) == 0 ? texts.compactShape(1 + below(size)) : texts.shape(6));
        }
        for (int k = 6; k < 9; k++) {
            tell(k, texts.rule());
        }
        for (int w = 0; w < 6; w++) {
            raise(w, below(6), below(8));
        }
        while (calls < CALLS - 40 && !wrong) {
            step();
        }
    }

    /** Walls that are mixed, put up again in another shape and mended. */
    private void mendRun() {
        for (int k = 0; k < 6; k++) {
            tell(k, texts.compactShape(1 + below(size)));
        }
        for (int brick = 0; brick < 24; brick++) {
            int mark = below(4);
            due("set mark", mine.set(10 + brick, mark), model.set(10 + brick, mark));
        }
        while (calls < CALLS - 80 && !wrong) {
            int alike = below(3) / 2;
            due("set 0 " + alike, mine.set(0, alike), model.set(0, alike));
            raise(0, below(6), 0);
            againStep(0, 1, below(6), 6, 0);
            againStep(1, 2, below(6), 5, 0);
            for (int cell = 0; cell < model.look(22); cell++) {
                due("at 2 " + cell, mine.at(2, cell), model.at(2, cell));
            }
        }
    }

    private void tell(int k, String text) {
        String cut = text.length() > 400 ? text.substring(0, 400) : text;
        told.append("# ").append(cut.replace("\n", "\\n")).append('\n');
        StringBuilder padded = new StringBuilder(cut);
        while (padded.length() % 20 != 0) {
            padded.append(' ');
        }
        for (int i = 0; i < padded.length(); i += 20) {
            int[] n = new int[5];
            for (int j = 0; j < 20; j++) {
                n[j / 4] = n[j / 4] << 8 | padded.charAt(i + j);
            }
            due("feed", mine.feed(n[0], n[1], n[2], n[3], n[4]), model.feed(n));
        }
        due("end", mine.end(cut.length()), model.end(cut.length()));
        due("text " + k, mine.text(k), model.text(k));
        due("fault 0", mine.fault(0), model.fault(0));
        due("fault 1", mine.fault(1), model.fault(1));
    }

    private void raise(int w, int shape, int from) {
        due("wall " + w + " " + shape, mine.wall(w, shape), model.wall(w, shape));
        due("fill " + w + " " + from, mine.fill(w, from), model.fill(w, from));
        for (int i = below(4); i > 1; i--) {
            layByChance(w);
        }
    }

    private void layByChance(int w) {
        lay(w, cellArg(w), below(2) == 0 ? -1 : arg(24));
    }

    private void lay(int w, int cell, int brick) {
        due("lay " + w + " " + cell + " " + brick, mine.lay(w, cell, brick), model.lay(w, cell, brick));
    }

    private void step() {
        switch (below(13)) {
            case 0:
                textStep();
                break;
            case 1:
                setStep();
                break;
            case 2:
                raise(arg(6), arg(6), arg(8));
                break;
            case 3:
                layByChance(arg(6));
                break;
            case 4:
                againStep(arg(6), arg(6), arg(6), arg(7), arg(100));
                break;
            case 5:
                yearsStep();
                break;
            case 6:
                goodStep(arg(6), arg(6), arg(4));
                break;
            case 7:
                historyStep(arg(24), arg(24));
                break;
            case 8:
                partStep(arg(6), arg(6), arg(6));
                break;
            case 9:
                wallStep(arg(6), arg(2));
                break;
            case 10:
                tapeStep();
                break;
            case 11:
                lookStep();
                break;
            default:
                imageStep();
                break;
        }
    }

    private void textStep() {
        if (below(3) == 0) {
            int k = below(20) == 0 ? arg(9) : 6 + below(3);
            String text = texts.rule();
            tell(k, below(3) == 0 ? texts.spoil(text) : text);
        } else {
            int k = below(20) == 0 ? arg(9) : below(6);
            String text = below(2) == 0 ? texts.compactShape(1 + below(size)) : texts.shape(below(8) == 0 ? 40 : 6);
            tell(k, below(3) == 0 ? texts.spoil(text) : text);
        }
    }

    private void setStep() {
        int what = new int[] {arg(2), 10 + arg(24), 10 + arg(24), 40 + arg(24), arg(70)}[below(5)];
        int v = what == 1 ? arg(below(2) == 0 ? 5 : 25) : arg(4);
        due("set " + what + " " + v, mine.set(what, v), model.set(what, v));
    }

    private void againStep(int a, int b, int shape, int way, int by) {
        due("again " + a + " " + b + " " + shape + " " + way + " " + by,
                mine.again(a, b, shape, way, by), model.again(a, b, shape, way, by));
        for (int i = 0; i < 3; i++) {
            int cell = cellArg(b);
            due("at " + b + " " + cell, mine.at(b, cell), model.at(b, cell));
        }
        goodStep(a, b, below(4));
    }

    private void yearsStep() {
        int rule = arg(3);
        int shape = arg(6);
        int n = below(3) > 0 ? 1 + arg(4) : arg(32);
        due("years " + rule + " " + shape + " " + n, mine.years(rule, shape, n), model.years(rule, shape, n));
        due("look 2", mine.look(2), model.look(2));
        historyStep(arg(24), arg(24));
    }

    private void goodStep(int a, int b, int what) {
        due("good " + a + " " + b + " " + what, mine.good(a, b, what), model.good(a, b, what));
        int older = below(2);
        due("older " + a + " " + b + " " + older, mine.older(a, b, older), model.older(a, b, older));
        int n = 2 + arg(5);
        int row = below(20) == 0 ? arg(50000) : below((int) Math.pow(6, Math.min(6, Math.max(2, n))));
        due("judge " + row + " " + n, mine.judge(row, n), model.judge(row, n));
    }

    private void historyStep(int a, int b) {
        int i = arg(Math.max(1, model.met(5)));
        int what = arg(4);
        due("history " + i + " " + what, mine.history(i, what), model.history(i, what));
        int asked = arg(6);
        due("met " + asked, mine.met(asked), model.met(asked));
        int of = arg(3);
        due("two " + a + " " + b + " " + of, mine.two(a, b, of), model.two(a, b, of));
        int side = arg(2);
        due("red " + a + " " + side, mine.red(a, side), model.red(a, side));
    }

    private void partStep(int a, int b, int shape) {
        int c = arg(4) == 0 ? arg(14) - 1 : arg(1 + Math.max(1, model.look(10 + shape)) / 2) - below(2);
        due("parting " + shape + " " + c, mine.parting(shape, c), model.parting(shape, c));
        int what = below(2) == 0 ? arg(3) : 10 + arg(8);
        if (below(2) == 0) {
            int bricks = model.look(30 + a);
            tell(arg(6), texts.compactShape(bricks < 1 ? 1 : bricks));
        }
        due("layings " + a + " " + shape + " " + what, mine.layings(a, shape, what), model.layings(a, shape, what));
        int of = below(4) == 0 ? arg(2) : 10 + arg(Math.max(1, model.look(30 + b)));
        due("order " + a + " " + b + " " + of, mine.order(a, b, of), model.order(a, b, of));
        int i = arg(Math.max(1, model.look(10 + shape)));
        int asked = arg(4);
        due("cell " + shape + " " + i + " " + asked, mine.cell(shape, i, asked), model.cell(shape, i, asked));
    }

    private void wallStep(int w, int what) {
        int cell = cellArg(w);
        due("borne " + w + " " + what, mine.borne(w, what), model.borne(w, what));
        due("door " + w + " " + cell + " " + what, mine.door(w, cell, what), model.door(w, cell, what));
        int brick = below(3) == 0 ? arg(24) : model.at(w, cellArg(w));
        due("beside " + w + " " + brick, mine.beside(w, brick), model.beside(w, brick));
        if (below(2) == 0) {
            int broken = model.at(w, cellArg(w));
            due("set " + (40 + broken) + " 1", mine.set(40 + broken, 1), model.set(40 + broken, 1));
            due("spares " + w, mine.spares(w), model.spares(w));
        }
    }

    private void tapeStep() {
        int n = random.nextInt();
        due("feed", mine.feed(n, 1, 2, 3, 4), model.feed(n, 1, 2, 3, 4));
        int end = below(4) == 0 ? arg(420) : 0;
        due("end " + end, mine.end(end), model.end(end));
        int what = arg(2);
        due("fault " + what, mine.fault(what), model.fault(what));
        if (below(2) == 0) {
            due("state " + n, mine.state(n), model.state(n));
        }
        due("end 0", mine.end(0), model.end(0));
    }

    private void lookStep() {
        for (int i = 0; i < 3; i++) {
            int what = arg(37);
            due("look " + what, mine.look(what), model.look(what));
        }
    }

    private void imageStep() {
        boolean taken = below(2) == 0;
        due("image " + taken, mine.image(taken), model.image(taken));
    }
}
