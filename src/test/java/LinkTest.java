/** Promises 11, 12, 13 and 14, and 5 of a link: link, word, address, clear, fault. */
public final class LinkTest {
    public static void main(String[] args) {
        layout();
        unevenTexts();
        kinds();
        jumps();
        branches();
        doubles();
        nones();
        order();
        great();
        words();
        addresses();
        throwing();
        clearing();
        Bench.close("LinkTest");
    }

    private static Bench of(String... texts) {
        Bench bench = new Bench();
        for (int i = 0; i < texts.length; i++) {
            Bench.due("assemble " + Bench.show(texts[i]), bench.make(texts[i]), i);
        }
        return bench;
    }

    private static void dueFault(Bench bench, int base, int fault, int object, int item) {
        Bench.due("link", bench.forge.link(base), ObjectForge.NONE);
        Bench.due("its fault", bench.forge.fault(2), fault);
        Bench.due("its object", bench.forge.fault(3), object);
        Bench.due("its symbol or relocation", bench.forge.fault(4), item);
        Bench.dueIndex("word", () -> bench.forge.word(base));
        if (bench.forge.count(2, 0) > 0) {
            Bench.dueThrow("address", IllegalStateException.class, () -> bench.forge.address(0, 0));
        }
    }

    private static void dueLink(Bench bench, int base, int size) {
        Bench.due("link", bench.forge.link(base), size);
        Bench.due("no fault", bench.forge.fault(2), 0);
        Bench.due("no object", bench.forge.fault(3), -1);
        Bench.due("no symbol", bench.forge.fault(4), -1);
    }

    private static void layout() {
        Bench bench = of("a: .word 1\nx:\n.data\nb: .byte 2\n.bss\nc: .space 3",
                "d: .word 4\n.data\ne: .byte 5,6,7,8,9\n.bss\nf: .space 1\ng:");
        dueLink(bench, 0x1000, 33);
        int[] first = {0x1000, 0x1004, 0x1008, 0x1018};
        int[] second = {0x1004, 0x1010, 0x1020, 0x1021};
        for (int k = 0; k < 4; k++) {
            Bench.due("address 0 " + k, bench.forge.address(0, k), first[k]);
            Bench.due("address 1 " + k, bench.forge.address(1, k), second[k]);
        }
        int[] words = {1, 4, 0x02000000, 0, 0x05060708, 0x09000000, 0, 0};
        for (int i = 0; i < words.length; i++) {
            Bench.due("word " + i, bench.forge.word(0x1000 + 4 * i), words[i]);
        }
        Bench.dueIndex("the byte at the end", () -> bench.forge.word(0x1020));
        dueLink(of(""), 0, 0);
        dueLink(of("nop"), 8, 8);
        dueLink(of("nop", ".bss\n.space 1"), 8, 9);
        dueLink(of(".data\n.byte 1", ".data\n.byte 1"), 8, 16);
    }

    private static void unevenTexts() {
        Bench bench = of(".byte 1,2,3", "x: .byte 4\n.data\ny: .byte 5");
        dueLink(bench, 0, 16);
        Bench.due("texts follow each other", bench.forge.word(0), 0x01020304);
        Bench.due("x", bench.forge.address(1, 0), 3);
        Bench.due("y", bench.forge.address(1, 1), 8);
        // A word that a text ahead moves to no multiple of 4 is still set whole.
        bench = of(".byte 1", ".word x+1\n.globl x\nx:");
        dueLink(bench, 0x12345678, 8);
        Bench.due("first", bench.forge.word(0x12345678), 0x01123456);
        Bench.due("second", bench.forge.word(0x1234567C), 0x7E000000);
    }

    private static void kinds() {
        Bench bench = of("la $4,d\nlw $5,d+2\n.word d-4,t\njal t\nlui $1,%hi(u)\nori $1,$1,%lo(u)",
                ".globl t,d,u\nt: nop\n.data\n.space 0x7ff\n.byte 0\nd: .word d\n.bss\nu:");
        dueLink(bench, 0x10007000, 0x830);
        int d = 0x10007828;
        int[] due = {0x3C041000, 0x24847828, 0x3C011000, 0x8C25782A, d - 4, 0x10007024,
            0x0C001C09, 0x3C011000, 0x34217830, 0};
        for (int i = 0; i < due.length; i++) {
            Bench.due("word " + i, bench.forge.word(0x10007000 + 4 * i), due[i]);
        }
        Bench.due("d", bench.forge.word(d), d);
        Bench.due("d by the other", bench.forge.address(0, 0), d);
        dueLink(bench, 0x1000_7800, 0x830);
        Bench.due("HIGH rounds up", bench.forge.word(0x10007800), 0x3C041001);
        Bench.due("LOW", bench.forge.word(0x10007804), 0x24848028);
        dueLink(of("la $1,x+0xFFFF7FF8\nx:"), -8, 8);
        bench = of("x: la $1,x+4294967295\n.word x-1");
        dueLink(bench, 0, 16);
        Bench.due("HIGH of -1", bench.forge.word(0), 0x3C010000);
        Bench.due("LOW of -1", bench.forge.word(4), 0x2421FFFF);
        Bench.due("WORD of -1", bench.forge.word(8), -1);
    }

    private static void jumps() {
        Bench bench = of("j x\nnop\nx:");
        dueFault(bench, 0x0FFFFFF8, 3, 0, 0);
        dueLink(bench, 0x10000000, 8);
        Bench.due("j", bench.forge.word(0x10000000), 0x08000002);
        dueLink(bench, 0x0FFFFFF0, 8);
        Bench.due("j below", bench.forge.word(0x0FFFFFF0), 0x0BFFFFFE);
        // The address behind the jump decides, not its own.
        bench = of("nop\nj x\nx:");
        dueLink(bench, 0x0FFFFFF8, 8);
        Bench.due("j over", bench.forge.word(0x0FFFFFFC), 0x08000000);
        dueLink(bench, -8, 8);
        Bench.due("j over the end", bench.forge.word(-4), 0x08000000);
        dueFault(of("nop\nx: j x+1"), 0, 3, 0, 0);
        dueFault(of("nop\nx: j x+2"), 0, 3, 0, 0);
        dueFault(of("la $1,x\nx: j x-8\nj x+0x10000000"), 0, 3, 0, 3);
    }

    private static void branches() {
        Bench bench = of("b x\nbeq $1,$2,x+4", ".globl x\nnop\nx:");
        dueLink(bench, 64, 16);
        Bench.due("b", bench.forge.word(64), 0x10000002);
        Bench.due("beq", bench.forge.word(68), 0x10220002);
        String x = ".globl x\nx:";
        dueLink(of("b x+131064\nb x-131072", x), 0, 8);
        dueLink(of("b x+131068", x), 0, 8);
        dueFault(of("b x+131072", x), 0, 3, 0, 0);
        dueFault(of("nop\nb x-131076", x), 0, 3, 0, 0);
        dueFault(of("b x+1", x), 0, 3, 0, 0);
        dueFault(of("b x+2", x), 0, 3, 0, 0);
        dueFault(of("nop", "b d\n.data\n.byte 1\nd:"), 0, 3, 1, 0);
        // 32 bits: over the end of all addresses it is near.
        dueLink(of("b x+0xFFFFFFF0", x), 0, 8);
        dueLink(of("nop\nnop\nb x", x + "nop"), -8, 16);
    }

    private static void doubles() {
        Bench bench = of("y: .globl x\nx:", ".globl y\nx: y:", "z: y: x: .globl x");
        dueFault(bench, 0, 1, 2, 2);
        bench = of(".globl a,b\na: b:", ".globl c\nc:", ".globl d,c,b\nd: c: b:");
        dueFault(bench, 0, 1, 2, 1);
        dueLink(of(".globl x\nx:", ".globl x", "x:", ".globl x\nb x"), 0, 8);
        dueLink(of(".globl xx\nxx:", ".globl x,xxx,xy,Xx\nx: xxx: xy: Xx:"), 0, 0);
    }

    private static void nones() {
        dueFault(of("b Aa", ".globl BB\nBB:"), 0, 2, 0, 0);
        dueFault(of(".globl x"), 0, 2, 0, 0);
        dueFault(of("a: la $1,a\nb b", "b:"), 0, 2, 0, 1);
        dueFault(of("x:", "la $1,x"), 0, 2, 1, 0);
        dueFault(of("b x", ".globl x"), 0, 2, 0, 0);
        dueLink(of("b x", ".globl x\nb y\nx:", ".globl y\ny: .word x"), 0, 16);
    }

    /** All DOUBLEs ahead of NONEs, and these ahead of FARs, whatever object they are in. */
    private static void order() {
        String far = "w: j w+1\n";
        dueFault(of(far + ".globl u,x\nx:", ".globl x\nx:"), 0, 1, 1, 0);
        dueFault(of(far, "b u"), 0, 2, 1, 0);
        dueFault(of("nop", far + "j w+1", far), 0, 3, 1, 0);
        Bench bench = of(far + ".globl u,x\nx:", ".globl x\nx:");
        for (int i = 2; i < 8; i++) {
            bench.make(".space 4096\n.data\n.space 4096");
        }
        dueFault(bench, 0, 4, -1, -1);
    }

    private static void great() {
        String full = ".space 4096\n.data\n.space 4096\n.bss\n.space 2048";
        Bench bench = of(full, full, full, ".space 2048");
        dueLink(bench, 0, 32768);
        Bench.due("last word", bench.forge.word(32764), 0);
        bench.make(".bss\n.space 1");
        dueFault(bench, 0, 4, -1, -1);
        // What is between them counts.
        bench = of(".space 4096\n.data\n.space 1", ".space 4096", ".space 4096", ".space 4096",
                ".space 4096", ".space 4096", ".space 4096\n.bss\n.space 4089");
        dueFault(bench, 0, 4, -1, -1);
        bench = of(".space 4096\n.data\n.space 1", ".space 4096", ".space 4096", ".space 4096",
                ".space 4096", ".space 4096", ".space 4096\n.bss\n.space 4088");
        dueLink(bench, 0, 32768);
    }

    private static void words() {
        Bench bench = of(".word 1,-2\n.bss\n.space 6");
        ObjectForge forge = bench.forge;
        dueLink(bench, 16, 14);
        Bench.due("first", forge.word(16), 1);
        Bench.due("second", forge.word(20), -2);
        Bench.due("of BSS", forge.word(24), 0);
        Bench.dueIndex("half in it", () -> forge.word(28));
        Bench.dueIndex("ahead", () -> forge.word(12));
        Bench.dueIndex("behind", () -> forge.word(32));
        Bench.dueIndex("far behind", () -> forge.word(0x7FFFFFFC));
        Bench.dueIndex("far ahead", () -> forge.word(0x80000010));
        for (int odd = 17; odd < 20; odd++) {
            int at = odd;
            Bench.dueIndex("no multiple of 4", () -> forge.word(at));
        }
        dueLink(bench, 0x7FFFFFF8, 14);
        Bench.due("over 2^31", forge.word(0x80000000), 0);
        dueLink(bench, -8, 14);
        Bench.due("ahead of the end", forge.word(-4), -2);
        Bench.due("over the end", forge.word(0), 0);
        Bench.dueIndex("half over the end", () -> forge.word(4));
        // The image stays as it is when objects come, and goes when they are linked anew.
        bench.make(".word 9");
        Bench.due("as it was", forge.word(-8), 1);
        Bench.due("linked anew", forge.link(0), 24);
        Bench.due("word of the second", forge.word(8), 9);
        Bench.dueIndex("the former image", () -> forge.word(-8));
    }

    private static void addresses() {
        Bench bench = of("a: b x", "nop\n.globl x\nx: y:");
        ObjectForge forge = bench.forge;
        Bench.dueThrow("no image", IllegalStateException.class, () -> forge.address(0, 0));
        Bench.dueIndex("no symbol, ahead of no image", () -> forge.address(0, 2));
        dueLink(bench, 0x100, 8);
        Bench.due("a", forge.address(0, 0), 0x100);
        Bench.due("x here", forge.address(0, 1), 0x108);
        Bench.due("x there", forge.address(1, 0), 0x108);
        Bench.due("y", forge.address(1, 1), 0x108);
        Bench.dueIndex("symbol 2", () -> forge.address(0, 2));
        Bench.dueIndex("symbol -1", () -> forge.address(0, -1));
        Bench.dueIndex("object 2", () -> forge.address(2, 0));
        Bench.dueIndex("object -1", () -> forge.address(-1, 0));
        bench.make("z: .globl x\nx:");
        Bench.dueThrow("came behind", IllegalStateException.class, () -> forge.address(2, 0));
        Bench.dueIndex("no symbol of it", () -> forge.address(2, 2));
        Bench.due("x as it was", forge.address(0, 1), 0x108);
        dueFault(bench, 0, 1, 2, 1);
        Bench.dueThrow("no image now", IllegalStateException.class, () -> forge.address(0, 1));
    }

    private static void throwing() {
        Bench bench = of("x: .word x");
        ObjectForge forge = bench.forge;
        dueLink(bench, 8, 8);
        for (int odd = 1; odd < 8; odd++) {
            int base = odd;
            Bench.dueThrow("odd base", IllegalArgumentException.class, () -> forge.link(base));
        }
        Bench.due("the image is left", forge.word(8), 8);
        Bench.due("and its symbol", forge.address(0, 0), 8);
        bench.make("b q");
        dueFault(bench, 0, 2, 1, 0);
        Bench.dueThrow("odd base", IllegalArgumentException.class, () -> forge.link(-4));
        Bench.due("the fault is left", forge.fault(2), 2);
        forge.clear();
        Bench.dueThrow("no objects", IllegalStateException.class, () -> forge.link(0));
        Bench.dueThrow("odd base ahead", IllegalArgumentException.class, () -> forge.link(4));
        Bench.due("the fault is left", forge.fault(2), 2);
        Bench.due("its object", forge.fault(3), 1);
    }

    private static void clearing() {
        Bench bench = of("x: .word x,2", "y:");
        ObjectForge forge = bench.forge;
        dueLink(bench, 0, 8);
        bench.feed("nop");
        Bench.due("clear", forge.clear(), 2);
        Bench.due("objects", forge.count(1, 0), 0);
        Bench.due("the text is left", forge.count(0, 0), 3);
        Bench.dueIndex("no image", () -> forge.word(0));
        Bench.dueIndex("no object", () -> forge.size(0, 0));
        Bench.dueIndex("no symbol", () -> forge.symbol(0, 0, 0));
        Bench.dueIndex("no address", () -> forge.address(0, 0));
        Bench.due("clear again", forge.clear(), 0);
        Bench.due("the first one anew", forge.assemble(), 0);
        Bench.due("its size", forge.size(0, 0), 4);
        Bench.due("its symbols", forge.count(2, 0), 0);
        Bench.due("its relocations", forge.count(3, 0), 0);
        Bench.dueIndex("still no image", () -> forge.word(0));
        for (int i = 1; i < 8; i++) {
            Bench.due("object", bench.make("nop"), i);
        }
        Bench.due("clear of eight", forge.clear(), 8);
        Bench.due("room again", bench.make("z:"), 0);
        Bench.dueThrow("image of before", IllegalStateException.class, () -> forge.address(0, 0));
    }
}
