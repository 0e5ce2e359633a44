import java.util.Random;

/** Whatever is called, only the exceptions of the document come, and the same twice. */
public final class AnyCallTest {
    private static final String[] PIECES = {"nop", "lw", "la", "li", "b", "j", "div", ".word",
        ".globl", ".data", ".text", ".bss", ".space", ".align", ".ascii", "x", "y:", "z", "$1",
        "$f2", "$32", "$", "5", "-", "+", "0x10", "4294967295", "'a'", "'", "\"s\"", "\"", "%hi",
        "%lo", "(", ")", ",", ",", " ", " ", "\n", "\n", "\n", "#", "@", "\\", "\0", "\u00ff"};

    public static void main(String[] args) {
        for (int run = 0; run < 600; run++) {
            long first = answers(run);
            Bench.due("run " + run + " again", answers(run), first);
        }
        Bench.close("AnyCallTest");
    }

    private static long answers(int run) {
        Random random = new Random(run);
        Bench bench = new Bench();
        long sum = 0;
        for (int i = 0; i < 150; i++) {
            if (random.nextInt(4) == 0) {
                StringBuilder text = new StringBuilder();
                for (int k = random.nextInt(12); k >= 0; k--) {
                    text.append(PIECES[random.nextInt(PIECES.length)]);
                }
                bench.feed(text.toString());
            }
            sum = sum * 31 + oneCall(bench.forge, random);
        }
        return sum;
    }

    private static int any(Random random) {
        int which = random.nextInt(12);
        if (which == 0) {
            return random.nextInt();
        }
        return which == 1 ? Integer.MIN_VALUE : random.nextInt(11) - 1;
    }

    private static int oneCall(ObjectForge forge, Random random) {
        int which = random.nextInt(16);
        int a = any(random);
        int b = any(random);
        int c = any(random);
        try {
            switch (which) {
                case 0: return forge.fault(a);
                case 1: return forge.size(a, b);
                case 2: return forge.byteAt(a, b, c);
                case 3: return forge.symbol(a, b, c);
                case 4: return forge.letter(a, b, c);
                case 5: return forge.relocation(a, b, c);
                case 6: return forge.word(a * 4);
                case 7: return forge.count(a, b);
                case 8: return forge.address(a, b);
                case 9: return forge.link(a * 8);
                case 10: return forge.link(a);
                case 11: return forge.end(a);
                case 12: return random.nextInt(20) == 0 ? forge.clear() : 0;
                default: return forge.assemble();
            }
        } catch (IndexOutOfBoundsException e) {
            Bench.due("call " + which + " may throw " + e, which <= 8 && told(e) ? 1 : 0, 1);
            return 1001;
        } catch (IllegalStateException e) {
            Bench.due("call " + which + " may throw " + e, which >= 8 && which != 11 ? 1 : 0, 1);
            return 1002;
        } catch (IllegalArgumentException e) {
            Bench.due("call " + which + " may throw " + e, which == 10 || which == 11 ? 1 : 0, 1);
            return 1003;
        }
    }

    /** Thrown by the program, not by the machine. */
    private static boolean told(IndexOutOfBoundsException e) {
        return e.getClass() == IndexOutOfBoundsException.class;
    }
}
