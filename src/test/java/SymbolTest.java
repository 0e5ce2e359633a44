/** Promises 8, 9 and 10: symbol, letter, relocation. */
public final class SymbolTest {
    public static void main(String[] args) {
        numbers();
        names();
        relocations();
        Bench.close("SymbolTest");
    }

    private static void numbers() {
        Bench bench = Bench.made("jal f+4\na: .globl g,a,h\nnop\n.data\nb: .word c,a\n.space 3\n"
                + "c: d:\n.bss\n.space 9\nh: .globl h,h\n");
        Bench.due("symbols", bench.forge.count(2, 0), 7);
        bench.dueSymbol(0, 0, "f", -1, 0, 0);
        bench.dueSymbol(0, 1, "a", 0, 4, 1);
        bench.dueSymbol(0, 2, "g", -1, 0, 1);
        bench.dueSymbol(0, 3, "h", 2, 9, 1);
        bench.dueSymbol(0, 4, "b", 1, 0, 0);
        bench.dueSymbol(0, 5, "c", 1, 11, 0);
        bench.dueSymbol(0, 6, "d", 1, 11, 0);
        // An object's symbols are left alone by those that come behind.
        Bench.due("second", bench.make(".globl f\nf: g:\n"), 1);
        bench.dueSymbol(1, 0, "f", 0, 0, 1);
        bench.dueSymbol(1, 1, "g", 0, 0, 0);
        bench.dueSymbol(0, 0, "f", -1, 0, 0);
        // Nor is anything left over from an abandoned text.
        bench.make(".globl zz\nzz: yy: nop\n@");
        Bench.due("third", bench.make("b q"), 2);
        Bench.due("its symbols", bench.forge.count(2, 2), 1);
        bench.dueSymbol(2, 0, "q", -1, 0, 0);
    }

    private static void names() {
        Bench bench = Bench.made("_.aZ9: abcdefghijklmnopqrstuvwx: AAAA: AAAa:");
        Bench.due("length", bench.forge.symbol(0, 0, 3), 5);
        Bench.due("length of the longest", bench.forge.symbol(0, 1, 3), 24);
        Bench.due("letter", bench.forge.letter(0, 0, 0), '_');
        Bench.due("last letter", bench.forge.letter(0, 0, 4), '9');
        Bench.due("last letter of the longest", bench.forge.letter(0, 1, 23), 'x');
        Bench.due("symbols", bench.forge.count(2, 0), 4);
        // Names that common sums over letters take for one.
        Bench twins = Bench.made("Aa: BB: AaBB: BBAa:");
        Bench.due("twins", twins.forge.count(2, 0), 4);
        twins.dueSymbol(0, 1, "BB", 0, 0, 0);
        twins.dueSymbol(0, 3, "BBAa", 0, 0, 0);
        // And the same of names of unlike lengths, one of them the other's beginning.
        String[] names = {"zqjdwzd", "djgsnymq", "twinbdsbhgiq", "twin"};
        Bench unlike = Bench.made("zqjdwzd: djgsnymq: twinbdsbhgiq: twin:");
        for (int k = 0; k < names.length; k++) {
            unlike.dueSymbol(0, k, names[k], 0, 0, 0);
        }
        unlike.make("j twin\n.globl twinbdsbhgiq\ntwinbdsbhgiq:");
        Bench.due("link", unlike.forge.link(0), ObjectForge.NONE);
        Bench.due("no one has it", unlike.forge.fault(2), 2);
    }

    private static void relocations() {
        Bench bench = Bench.made(".data\n.word x-1\n.text\nx: jal y+8\nla $4,x\n.word y\n.data\n"
                + ".word 5,z\n.text\nb z-4\nb x\nsw $4,z\nb x\n.data\n.word z+12\n.globl z\n");
        int[][] due = {{1, 0, 2, 0, -1}, {0, 0, 4, 1, 8}, {0, 4, 5, 0, 0}, {0, 8, 6, 0, 0},
            {0, 12, 2, 1, 0}, {1, 8, 2, 2, 0}, {0, 16, 10, 2, -4}, {0, 24, 5, 2, 0},
            {0, 28, 6, 2, 0}, {1, 12, 2, 2, 12}};
        Bench.due("relocations", bench.forge.count(3, 0), due.length);
        for (int k = 0; k < due.length; k++) {
            bench.dueRelocation(0, k, due[k]);
        }
        int[] words = {0x0C000000, 0x3C040000, 0x24840000, 0, 0x10000000, 0x1000FFFA, 0x3C010000,
            0xAC240000};
        for (int i = 0; i < words.length; i++) {
            Bench.due("word " + i, bench.wordOf(0, 0, 4 * i), words[i]);
        }
        Bench.due("the field of a WORD", bench.wordOf(0, 1, 0), 0);
    }
}
