/** Promises 4, 11 and 14: nothing of what was there before clear() or a fault comes back. */
public final class ReuseTest {
    private static final String SMALL = "x: la $4,u\n";

    public static void main(String[] args) {
        behindEight();
        formerSymbols();
        behindFaults();
        Bench.close("ReuseTest");
    }

    /** Every place that an object can have has been used by another one before. */
    private static void behindEight() {
        for (int o = 0; o < 8; o++) {
            Bench bench = new Bench();
            for (int i = 0; i < 8; i++) {
                Bench.due("object", bench.make(big(i)), i);
            }
            Bench.due("link", bench.forge.link(0), 8 * 40);
            Bench.due("clear", bench.forge.clear(), 8);
            for (int i = 0; i <= o; i++) {
                Bench.due("small", bench.make(SMALL), i);
            }
            dueSmall(bench, o);
            for (String former : new String[] {"g" + o, "x" + o, "u" + o}) {
                bench.forge.clear();
                Bench.due("small again", bench.make(SMALL.replace("u", former)), 0);
                Bench.due("link", bench.forge.link(0), ObjectForge.NONE);
                Bench.due("fault", bench.forge.fault(2), 2);
                Bench.due("object of it", bench.forge.fault(3), 0);
                Bench.due("symbol of it", bench.forge.fault(4), 1);
            }
        }
    }

    /** Symbols of before are neither found, nor missed, nor DOUBLE. */
    private static void formerSymbols() {
        for (int symbols = 0; symbols < 3; symbols++) {
            String few = "p: q: r:".substring(0, 3 * symbols);
            Bench bench = new Bench();
            for (int i = 0; i < 8; i++) {
                Bench.due("object", bench.make("p: q: r:\nj a" + i + "\n"), i);
            }
            bench.forge.clear();
            for (int i = 0; i < 8; i++) {
                String a = "a" + i;
                String text = ".globl " + a + "\nj " + a + "\n" + a + ":\n";
                Bench.due("object", bench.make(few + text + "j " + a), i);
            }
            Bench.due("no one is missed", bench.forge.link(0), 64);
            bench.forge.clear();
            Bench.due("the only one", bench.make(".globl a3\na3: nop\nnop"), 0);
            for (int i = 1; i < 8; i++) {
                Bench.due("object", bench.make(few), i);
            }
            Bench.due("none is DOUBLE", bench.forge.link(0), 8);
            bench.forge.clear();
            for (int i = 0; i < 8; i++) {
                Bench.due("object", bench.make(few), i);
            }
            Bench.due("link of these", bench.forge.link(0), 0);
        }
    }

    private static String big(int o) {
        return ".word -1,-1\n.globl g" + o + ",x" + o + ",u" + o + "\ng" + o + ": u" + o
                + ": la $1,g" + o + "\n.data\n.word -1\nx" + o + ": .word u" + o + "\n"
                + ".bss\n.space 16\n";
    }

    private static void dueSmall(Bench bench, int o) {
        ObjectForge forge = bench.forge;
        Bench.due("text", forge.size(o, 0), 8);
        Bench.due("data", forge.size(o, 1), 0);
        Bench.due("bss", forge.size(o, 2), 0);
        Bench.due("symbols", forge.count(2, o), 2);
        bench.dueSymbol(o, 0, "x", 0, 0, 0);
        bench.dueSymbol(o, 1, "u", -1, 0, 0);
        Bench.due("relocations", forge.count(3, o), 2);
        bench.dueRelocation(o, 0, 0, 0, 5, 1, 0);
        bench.dueRelocation(o, 1, 0, 4, 6, 1, 0);
    }

    private static void behindFaults() {
        Bench bench = new Bench();
        for (int round = 0; round < 8; round++) {
            Bench.due("fault", bench.make(big(round) + ".data\n@"), ObjectForge.NONE);
            Bench.due("no line more", bench.forge.fault(1), 10);
            Bench.due("object", bench.make(SMALL), 0);
            dueSmall(bench, 0);
            bench.forge.clear();
        }
    }
}
