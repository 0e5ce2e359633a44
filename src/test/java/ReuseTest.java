/** Promises 4, 11 and 14: nothing of what was there before clear() or a fault comes back. */
public final class ReuseTest {
    private static final int ROUNDS = 12;

    public static void main(String[] args) {
        behindEight();
        behindFaults();
        Bench.close("ReuseTest");
    }

    /** So many rounds that every place of an object has been used before. */
    private static void behindEight() {
        Bench bench = new Bench();
        for (int round = 0; round < ROUNDS; round++) {
            int many = round % 2 == 0 ? 8 : 1;
            for (int o = 0; o < many; o++) {
                Bench.due("object", bench.make(big(o)), o);
            }
            Bench.due("link", bench.forge.link(0), many == 8 ? 320 : 40);
            Bench.due("clear", bench.forge.clear(), many);
            Bench.due("small", bench.make("x: la $4,u\n.globl x\n"), 0);
            dueSmall(bench);
            for (int o = 0; o < 8; o++) {
                Bench.due("one more", bench.make("b g" + o + "\n"), 1);
                Bench.due("link", bench.forge.link(0), ObjectForge.NONE);
                Bench.due("fault", bench.forge.fault(2), 2);
                Bench.due("object of it", bench.forge.fault(3), 0);
                bench.forge.clear();
                Bench.due("another", bench.make("x: b g" + o), 0);
                Bench.due("link of it", bench.forge.link(0), ObjectForge.NONE);
                Bench.due("symbol of it", bench.forge.fault(4), 1);
                bench.forge.clear();
                bench.make("x: la $4,u\n.globl x\n");
            }
            Bench.due("clear", bench.forge.clear(), 1);
        }
    }

    private static String big(int o) {
        return ".word -1,-1\n.globl g" + o + ",x" + o + ",u" + o + "\ng" + o + ": u" + o
                + ": la $1,g" + o + "\n.data\n.word -1\nx" + o + ": .word u" + o + "\n"
                + ".bss\n.space 16\n";
    }

    private static void dueSmall(Bench bench) {
        ObjectForge forge = bench.forge;
        Bench.due("text", forge.size(0, 0), 8);
        Bench.due("data", forge.size(0, 1), 0);
        Bench.due("bss", forge.size(0, 2), 0);
        Bench.due("symbols", forge.count(2, 0), 2);
        bench.dueSymbol(0, 0, "x", 0, 0, 1);
        bench.dueSymbol(0, 1, "u", -1, 0, 0);
        Bench.due("relocations", forge.count(3, 0), 2);
        bench.dueRelocation(0, 0, 0, 0, 5, 1, 0);
        bench.dueRelocation(0, 1, 0, 4, 6, 1, 0);
    }

    private static void behindFaults() {
        Bench bench = new Bench();
        for (int round = 0; round < ROUNDS; round++) {
            Bench.due("fault", bench.make(big(round) + ".data\n@"), ObjectForge.NONE);
            Bench.due("no line more", bench.forge.fault(1), 10);
            Bench.due("object", bench.make("x: la $4,u\n.globl x\n"), 0);
            dueSmall(bench);
            bench.forge.clear();
        }
    }
}
