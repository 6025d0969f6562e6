/**
 * Long runs of calls by a fixed row of numbers, on the program and on the plain model: both answer
 * the same. No object is used for more than 512 calls.
 */
public final class ModelTest {
    private static final int RUNS = 6000;
    private static final int CALLS = 512;
    private static final int[] EDGES = {-1, Integer.MIN_VALUE, Integer.MAX_VALUE, -2, 256, 100, 8, 3};

    private long seed;
    private GodChips program;
    private PlainModel model;
    private String pending;
    private int called;
    private final StringBuilder log = new StringBuilder();

    private ModelTest(long seed) {
        this.seed = seed;
        program = new GodChips();
        model = new PlainModel();
        pending = "";
    }

    private int below(int bound) {
        seed = seed * 6364136223846793005L + 1442695040888963407L;
        return (int) ((seed >>> 33) % bound);
    }

    /** Mostly 0 to bound - 1, seldom something out of it. */
    private int about(int bound) {
        int dice = below(40);
        if (dice == 0) {
            return EDGES[below(EDGES.length)];
        }
        return dice == 1 ? bound : below(bound);
    }

    private int aChip() {
        return about(Math.max(1, model.count(0)));
    }

    private int aWord() {
        return about(Math.max(1, model.count(2)));
    }

    private boolean same(String call, int got, int want) {
        called++;
        log.append(call).append(" = ").append(got).append('\n');
        if (got != want) {
            System.out.println(log + "the model answers " + want);
        }
        return got == want;
    }

    private boolean change(int kind) {
        int a = aChip();
        int b = about(6);
        int v = about(256);
        int w = aWord();
        int f = about(3);
        int s = about(3);
        int t = below(4) == 0 ? about(101) : 1 + below(3);
        switch (kind) {
            case 0: return same("chip " + f + " " + s, program.chip(f, s), model.chip(f, s));
            case 1: return same("elect " + a, program.elect(a), model.elect(a));
            case 2: return same("kill " + a, program.kill(a), model.kill(a));
            case 3: return same("breaks " + a + " " + b, program.breaks(a, b), model.breaks(a, b));
            case 4: return same("put " + a + " " + v, program.put(a, v), model.put(a, v));
            case 5: return same("write " + w + " " + v, program.write(w, v), model.write(w, v));
            case 6: return same("carry " + w + " " + a, program.carry(w, a), model.carry(w, a));
            case 7: return same("empty " + a, program.empty(a), model.empty(a));
            case 8: return same("tick " + t, program.tick(t), model.tick(t));
            case 9: return same("undo", program.undo(), model.undo());
            case 10: return same("play", program.play(), model.play());
            default: return same("clearText", program.clearText(), model.clearText());
        }
    }

    private boolean question(int kind) {
        int a = aChip();
        int b = below(3) == 0 ? -1 : aChip();
        int r = about(6);
        int w = aWord();
        int f = about(3);
        int n = about(12);
        int two = about(2);
        switch (kind) {
            case 0: return same("chipOf " + a + " " + r, program.chipOf(a, r), model.chipOf(a, r));
            case 1: return same("rowOf " + a + " " + r, program.rowOf(a, r), model.rowOf(a, r));
            case 2: return same("read " + w, program.read(w), model.read(w));
            case 3: return same("wordOf " + w + " " + r, program.wordOf(w, r), model.wordOf(w, r));
            case 4: return same("familyOf " + f + " " + r, program.familyOf(f, r), model.familyOf(f, r));
            case 5: return same("loss " + a + " " + b, program.loss(a, b), model.loss(a, b));
            case 6: return same("safe", program.safe(), model.safe());
            case 7: return same("worstTwo " + two, program.worstTwo(two), model.worstTwo(two));
            case 8: return same("calm", program.calm(), model.calm());
            case 9: return same("heir " + f, program.heir(f), model.heir(f));
            case 10: return same("count " + n, program.count(n), model.count(n));
            case 11: return same("chipOf " + a + " 6", program.chipOf(a, 6), model.chipOf(a, 6));
            default: return same("fault " + two, program.fault(two), model.fault(two));
        }
    }

    /** One more character: mostly of orders that could be possible. */
    private boolean typing() {
        if (pending.isEmpty()) {
            char letter = "ktevpb".charAt(below(6));
            int first = letter == 't' ? about(101) : aChip();
            int second = letter == 'p' ? about(256) : about(6);
            pending = letter + "" + first + (letter == 'p' || letter == 'b' ? "," + second : "") + ";";
        }
        int sign = below(150) == 0 ? 30 + below(100) : pending.charAt(0);
        pending = pending.substring(1);
        return same("type " + sign, program.type(sign), model.type(sign));
    }

    /** The kinds of changes, more of those that keep a memory alive than of those that end it. */
    private static final String CHANGES = "004444444455677888888222333311119aab";

    private boolean run() {
        int style = below(4);
        boolean fine = true;
        while (fine && called < CALLS) {
            int dice = below(100);
            if (called < 6 && below(3) > 0) {
                fine = change(0);
            } else if (dice < 45) {
                fine = question(below(13));
            } else if (dice < 45 + 10 * style) {
                fine = typing();
            } else {
                fine = change(Character.digit(CHANGES.charAt(below(CHANGES.length())), 16));
            }
        }
        return fine;
    }

    public static void main(String[] args) {
        long calls = 0;
        for (int run = 0; run < RUNS; run++) {
            ModelTest test = new ModelTest(run);
            if (!test.run()) {
                System.out.println("run " + run + " went wrong");
                System.exit(1);
            }
            calls += test.called;
        }
        System.out.println(calls + " calls answered as by the model");
    }
}
