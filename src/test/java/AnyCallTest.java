/**
 * No call throws or fails to end, for any arguments in any state, behind the 512th call, too (LANGUAGE.md, rule 7);
 * and an answer is one of the constants, or not below 0.
 */
public final class AnyCallTest {
    private static final int OBJECTS = 40;
    private static final int CALLS = 50_000;
    private static final int[] FAR = {
        Integer.MIN_VALUE, Integer.MIN_VALUE + 1, -1000004, -65536, -256, -33, -32, -31, -8, -2, 31, 32, 33, 64, 100, 101,
        127, 255, 256, 512, 65536, 99999, 100001, 1 << 30, Integer.MAX_VALUE - 1, Integer.MAX_VALUE};
    private static final String SIGNS = "ktevpbktevpb;;;;;;;;,,,,0123456701234567 x";

    private final GodChips x = new GodChips();
    private long seed;

    private AnyCallTest(long seed) {
        this.seed = seed;
    }

    private int below(int bound) {
        seed = seed * 6364136223846793005L + 1442695040888963407L;
        return (int) ((seed >>> 33) % bound);
    }

    private int any(int bound) {
        int dice = below(20);
        return dice == 0 ? FAR[below(FAR.length)] : dice == 1 ? below(40) - 8 : below(bound);
    }

    private int call(int kind) {
        switch (kind) {
            case 0: return x.chip(any(3), any(3));
            case 1: return x.elect(any(8));
            case 2: return below(3) == 0 ? x.kill(any(8)) : x.undo();
            case 3: return below(3) == 0 ? x.breaks(any(8), any(6)) : x.undo();
            case 4: return x.chipOf(any(8), any(7));
            case 5: return x.rowOf(any(8), any(6));
            case 6: return x.put(any(8), any(256));
            case 7: return x.write(any(24), any(256));
            case 8: return x.read(any(24));
            case 9: return x.carry(any(24), any(8));
            case 10: return x.empty(any(8));
            case 11: return x.wordOf(any(24), any(6));
            case 12: return x.familyOf(any(3), any(7));
            case 13: return x.tick(any(101));
            case 14: return x.loss(any(8), any(9) - 1);
            case 15: return x.safe();
            case 16: return x.worstTwo(any(2));
            case 17: return x.calm();
            case 18: return x.heir(any(3));
            case 19: return x.count(any(12));
            case 20: return x.undo();
            case 21: return below(8) == 0 ? x.clearText() : x.type(any(127));
            case 22: return x.fault(any(2));
            case 23: return x.play();
            default: return x.type(SIGNS.charAt(below(SIGNS.length())));
        }
    }

    private boolean run() {
        for (int i = 0; i < CALLS; i++) {
            int kind = below(32);
            int answer = call(kind);
            if (answer < 0 && (answer > GodChips.INVALID_ARGUMENT || answer < GodChips.NOT_FOUND)) {
                System.out.println("call " + i + " of kind " + kind + " answered " + answer);
                return false;
            }
        }
        return true;
    }

    public static void main(String[] args) {
        for (int object = 0; object < OBJECTS; object++) {
            if (!new AnyCallTest(object).run()) {
                System.exit(1);
            }
        }
        System.out.println(OBJECTS * CALLS + " calls, of which none throws");
    }
}
