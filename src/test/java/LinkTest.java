/** Promise 11, TO LINK, the kinds of relocations, and FAULTS 1 to 4 of a link with their order. */
public final class LinkTest {
    private static final int DOUBLE = 1;
    private static final int NO_SUCH = 2;
    private static final int FAR = 3;
    private static final int GREAT = 4;

    public static void main(String[] args) {
        baseIsNoMultiple();
        noObjects();
        baseAheadOfObjects();
        bases();
        textsFromTheBase();
        datasFromMultiples();
        bssesLikewise();
        endOfTheLastBss();
        addressesOfSymbols();
        undefinedOnes();
        onlyGlobalOnes();
        words();
        highs();
        lows();
        jumpBits();
        jumpsOverBounds();
        jumpRests();
        branchBounds();
        branchRests();
        branchesBy32Bits();
        everyObject();
        fullObject();
        zerosBetween();
        doubles();
        doublesNotOfUndefined();
        nones();
        fars();
        great();
        greatWithWhatIsBetween();
        orderOfFaults();
        noImageAtAFault();
        linkedAgain();
        Bench.close("LinkTest");
    }

    private static Bench of(String... texts) {
        Bench bench = new Bench();
        for (int i = 0; i < texts.length; i++) {
            Bench.due("assemble " + Bench.show(texts[i]), bench.make(texts[i]), i);
        }
        return bench;
    }

    private static void dueLink(Bench bench, int base, int size) {
        Bench.due("link at " + base, bench.forge.link(base), size);
        Bench.due("its fault", bench.forge.fault(2), 0);
        Bench.due("its object", bench.forge.fault(3), ObjectForge.NONE);
        Bench.due("its symbol or relocation", bench.forge.fault(4), ObjectForge.NONE);
    }

    private static void dueFault(Bench bench, int base, int fault, int object, int item) {
        Bench.due("link at " + base, bench.forge.link(base), ObjectForge.NONE);
        Bench.due("its fault", bench.forge.fault(2), fault);
        Bench.due("its object", bench.forge.fault(3), object);
        Bench.due("its symbol or relocation", bench.forge.fault(4), item);
    }

    private static void dueWord(Bench bench, int address, int due) {
        Bench.due("word at " + address, bench.forge.word(address), due);
    }

    private static void baseIsNoMultiple() {
        Bench.about("IllegalArgumentException: the base is no multiple of 8");
        Bench bench = of("nop\nnop");
        for (int base = -17; base <= 17; base++) {
            int at = base;
            if (base % 8 == 0) {
                dueLink(bench, base, 8);
            } else {
                Bench.dueArgument("link at " + base, () -> bench.forge.link(at));
            }
        }
        Bench.dueArgument("link", () -> bench.forge.link(Integer.MAX_VALUE));
        Bench.dueArgument("link", () -> bench.forge.link(Integer.MIN_VALUE + 4));
    }

    private static void noObjects() {
        Bench.about("IllegalStateException: there are no objects.");
        Bench bench = new Bench();
        Bench.dueState("of a new one", () -> bench.forge.link(0));
        bench.make("@");
        Bench.dueState("behind a fault", () -> bench.forge.link(8));
        bench.feed("nop\nnop");
        Bench.dueState("of a text", () -> bench.forge.link(-8));
        bench.forge.assemble();
        dueLink(bench, 0, 8);
        bench.forge.clear();
        Bench.dueState("behind clear()", () -> bench.forge.link(0));
    }

    private static void baseAheadOfObjects() {
        Bench.about("Of several exceptions the first one told is thrown (link)");
        Bench bench = new Bench();
        for (int base : new int[] {1, 4, 7, -1, -4, Integer.MAX_VALUE}) {
            Bench.dueArgument("link at " + base, () -> bench.forge.link(base));
        }
    }

    private static void bases() {
        Bench.about("Links all objects at a base");
        Bench bench = of("x: .word x,5");
        for (int base : new int[] {0, 8, 0x400000, 0x7FFFFFF8, Integer.MIN_VALUE, -8, -16}) {
            dueLink(bench, base, 8);
            dueWord(bench, base, base);
            dueWord(bench, base + 4, 5);
            Bench.due("address", bench.forge.address(0, 0), base);
        }
    }

    private static void textsFromTheBase() {
        Bench.about("the TEXTs, in order, from the base on");
        Bench bench = of("a: .word 1", "b: .word 2,3", "", "c: .word 4\nd:");
        dueLink(bench, 0x100, 16);
        for (int i = 0; i < 4; i++) {
            dueWord(bench, 0x100 + 4 * i, i + 1);
        }
        Bench.due("a", bench.forge.address(0, 0), 0x100);
        Bench.due("b", bench.forge.address(1, 0), 0x104);
        Bench.due("c", bench.forge.address(3, 0), 0x10C);
        Bench.due("d", bench.forge.address(3, 1), 0x110);
    }

    private static void datasFromMultiples() {
        Bench.about("the DATAs behind, from a multiple of 8 on, each from a multiple of 8 on");
        for (int text = 0; text <= 16; text += 4) {
            for (int data = 1; data <= 9; data++) {
                Bench bench = of(".space " + text + "\n.data\na: .byte 1\n.space " + (data - 1),
                        ".data\nb: .byte 2\n.bss\n.space 1");
                int first = (text + 7) / 8 * 8;
                int second = first + (data + 7) / 8 * 8;
                dueLink(bench, 0, second + 9);
                Bench.due("a", bench.forge.address(0, 0), first);
                Bench.due("b", bench.forge.address(1, 0), second);
                dueWord(bench, first, 0x01000000);
                dueWord(bench, second, 0x02000000);
            }
        }
    }

    private static void bssesLikewise() {
        Bench.about("then the BSSs likewise");
        for (int data = 0; data <= 9; data++) {
            for (int bss = 1; bss <= 9; bss++) {
                Bench bench = of(".data\n.space " + data + "\n.bss\na: .space " + bss,
                        ".bss\nb: .space 3");
                int first = (data + 7) / 8 * 8;
                int second = first + (bss + 7) / 8 * 8;
                dueLink(bench, 64, second + 3);
                Bench.due("a", bench.forge.address(0, 0), 64 + first);
                Bench.due("b", bench.forge.address(1, 0), 64 + second);
            }
        }
        // All DATAs are ahead of all BSSs.
        Bench bench = of(".bss\na: .space 1", ".data\nb: .byte 5", "c: nop\n.bss\nd: .space 2");
        dueLink(bench, 0, 26);
        Bench.due("a", bench.forge.address(0, 0), 16);
        Bench.due("b", bench.forge.address(1, 0), 8);
        Bench.due("c", bench.forge.address(2, 0), 0);
        Bench.due("d", bench.forge.address(2, 1), 24);
    }

    private static void endOfTheLastBss() {
        Bench.about("how many bytes the image has (up to the end of the last BSS)");
        for (int bss = 1; bss <= 16; bss++) {
            dueLink(of("nop\n.data\n.byte 1\n.bss\n.space " + bss), 0, 16 + bss);
            dueLink(of("nop", ".bss\n.space " + bss), 0, 8 + bss);
        }
        dueLink(of(""), 0, 0);
        dueLink(of("", "", ""), 8, 0);
        dueLink(of("nop\nnop"), 0, 8);
        dueLink(of(".data\n.space 24"), 0, 24);
        dueLink(of(".bss\n.space 4096"), 0, 4096);
    }

    private static void addressesOfSymbols() {
        Bench.about("A symbol's address is that of its section in there and its value.");
        Bench bench = of("nop\na:\n.data\n.byte 1\nb:\n.bss\n.space 2\nc:",
                "d: nop\ne:\n.data\nf: .byte 1,2\ng:\n.bss\nh: .space 9\ni:");
        dueLink(bench, 0x2000, 0x29);
        int[] first = {0x2004, 0x2009, 0x201A};
        int[] second = {0x2004, 0x2008, 0x2010, 0x2012, 0x2020, 0x2029};
        for (int k = 0; k < first.length; k++) {
            Bench.due("address of 0 " + k, bench.forge.address(0, k), first[k]);
        }
        for (int k = 0; k < second.length; k++) {
            Bench.due("address of 1 " + k, bench.forge.address(1, k), second[k]);
        }
    }

    private static void undefinedOnes() {
        Bench.about("An UNDEFINED one is the GLOBAL one of that name of another object.");
        Bench bench = of(".word x,y", ".globl x\n.word y\nx:",
                ".globl y\n.data\n.byte 1\ny: .space 7", ".globl x,y\n.word x");
        dueLink(bench, 0x100, 24);
        int x = 0x10C;
        int y = 0x111;
        dueWord(bench, 0x100, x);
        dueWord(bench, 0x104, y);
        dueWord(bench, 0x108, y);
        dueWord(bench, 0x10C, x);
        Bench.due("x of 0", bench.forge.address(0, 0), x);
        Bench.due("y of 0", bench.forge.address(0, 1), y);
        Bench.due("x of 1", bench.forge.address(1, 0), x);
        Bench.due("y of 1", bench.forge.address(1, 1), y);
        Bench.due("y of 2", bench.forge.address(2, 0), y);
        Bench.due("x of 3", bench.forge.address(3, 0), x);
        Bench.due("y of 3", bench.forge.address(3, 1), y);
        // Whatever numbers the two have.
        bench = of("j a\nla $4,c\n.word b,c,a,d", "nop\n.globl d,c\na: c: nop\nd: nop",
                "x: nop\n.globl b\nb: y: nop\n.globl a\na: nop\nnop");
        dueLink(bench, 0, 56);
        Bench.due("a", bench.forge.address(0, 0), 0x30);
        Bench.due("c", bench.forge.address(0, 1), 0x20);
        Bench.due("b", bench.forge.address(0, 2), 0x2C);
        Bench.due("d", bench.forge.address(0, 3), 0x24);
        dueWord(bench, 12, 0x2C);
        dueWord(bench, 16, 0x20);
        dueWord(bench, 20, 0x30);
        dueWord(bench, 24, 0x24);
        // Each object's own label is its own, GLOBAL or not.
        bench = of("x: .word x", "nop\n.globl x\nx: .word x", ".word x", ".word 0\nx: .word x");
        dueLink(bench, 0, 24);
        int[] due = {0, 0, 8, 8, 0, 20};
        for (int i = 0; i < due.length; i++) {
            dueWord(bench, 4 * i, due[i]);
        }
    }

    private static void onlyGlobalOnes() {
        Bench.about("is the GLOBAL one of that name of another object");
        dueFault(of("j x", "x:"), 0, NO_SUCH, 0, 0);
        dueFault(of("x:", "j x", "x:"), 0, NO_SUCH, 1, 0);
        dueFault(of("j x", ".globl x"), 0, NO_SUCH, 0, 0);
        dueFault(of("j x", ".globl X,xx\nX: xx:"), 0, NO_SUCH, 0, 0);
        dueLink(of("j x", "x:", ".globl x\nx:", "x: nop"), 0, 8);
    }

    private static void words() {
        Bench.about("S the symbol's address and the addend (32 bits): WORD: S.");
        Bench bench = of("x: .word x,x+1,x-1,x+4294967295,x+0x80000000,x-2147483648");
        dueLink(bench, 0x100, 24);
        int[] due = {0x100, 0x101, 0xFF, 0xFF, 0x80000100, 0x80000100};
        for (int i = 0; i < due.length; i++) {
            dueWord(bench, 0x100 + 4 * i, due[i]);
        }
        dueLink(bench, -8, 24);
        int[] end = {-8, -7, -9, -9, 0x7FFFFFF8, 0x7FFFFFF8};
        for (int i = 0; i < end.length; i++) {
            dueWord(bench, -8 + 4 * i, end[i]);
        }
        bench = of("nop", ".data\n.word y\n.text\nnop\n.globl y", ".globl y\n.bss\n.space 3\ny:");
        dueLink(bench, 0, 19);
        dueWord(bench, 8, 19);
    }

    private static void highs() {
        Bench.about("HIGH: the upper half of S + 32768.");
        String[] told = {"+0", "+32767", "+32768", "+65535", "+98303", "+98304", "-1", "-32768",
            "-32769", "+0x7FFF7FFF", "+0x7FFF8000", "+0xFFFF7FFF", "+0xFFFF8000"};
        int[] due = {0, 0, 1, 1, 1, 2, 0, 0, 0xFFFF, 0x7FFF, 0x8000, 0xFFFF, 0};
        for (int i = 0; i < told.length; i++) {
            Bench bench = of("x: lui $4,%hi(x" + told[i] + ")\nnop");
            dueLink(bench, 0, 8);
            dueWord(bench, 0, 0x3C040000 | due[i]);
        }
        Bench bench = of("nop\nx: lui $4,%hi(x)");
        dueLink(bench, 0x12347FF8, 8);
        dueWord(bench, 0x12347FFC, 0x3C041234);
        dueLink(bench, 0x12348000, 8);
        dueWord(bench, 0x12348004, 0x3C041235);
        dueLink(bench, -8, 8);
        dueWord(bench, -4, 0x3C040000);
    }

    private static void lows() {
        Bench.about("LOW: the lower half of S.");
        String[] told = {"+0", "+1", "+32767", "+32768", "+65535", "+65536", "-1", "-32768",
            "+0xFFFF8000"};
        int[] due = {0, 1, 0x7FFF, 0x8000, 0xFFFF, 0, 0xFFFF, 0x8000, 0x8000};
        for (int i = 0; i < told.length; i++) {
            Bench bench = of("x: addiu $4,$4,%lo(x" + told[i] + ")\nlw $4,x" + told[i] + "\nnop");
            dueLink(bench, 0, 16);
            dueWord(bench, 0, 0x24840000 | due[i]);
            dueWord(bench, 8, 0x8C240000 | due[i]);
        }
        Bench bench = of("nop\nla $5,x\nx: nop");
        dueLink(bench, 0x1234FFF8, 16);
        dueWord(bench, 0x1234FFFC, 0x3C051235);
        dueWord(bench, 0x12350000, 0x24A50004);
    }

    private static void jumpBits() {
        Bench.about("JUMP: bits 27 to 2 of S");
        Bench bench = of("j x\njal x+8\nx:");
        dueLink(bench, 0, 8);
        dueWord(bench, 0, 0x08000002);
        dueWord(bench, 4, 0x0C000004);
        dueLink(bench, 0x7FFFFFC0, 8);
        dueWord(bench, 0x7FFFFFC0, 0x0BFFFFF2);
        dueWord(bench, 0x7FFFFFC4, 0x0FFFFFF4);
        bench = of("x: j x+0x0FFFFFFC\nnop");
        dueLink(bench, 0, 8);
        dueWord(bench, 0, 0x0BFFFFFF);
        dueLink(bench, 0x20000000, 8);
        dueWord(bench, 0x20000000, 0x0BFFFFFF);
    }

    private static void jumpsOverBounds() {
        Bench.about("its upper four bits must be those of the address behind it");
        dueFault(of("x: j x+0x10000000"), 0, FAR, 0, 0);
        dueFault(of("x: j x-4"), 0, FAR, 0, 0);
        dueFault(of("x: j x-4"), 0x20000000, FAR, 0, 0);
        dueLink(of("x: nop\nj x"), 0x20000000, 8);
        Bench bench = of("j x\nnop\nx:");
        dueFault(bench, 0x0FFFFFF8, FAR, 0, 0);
        dueLink(bench, 0x0FFFFFF0, 8);
        dueFault(bench, 0x7FFFFFF8, FAR, 0, 0);
        dueFault(bench, -8, FAR, 0, 0);
        // The address behind it, not its own.
        bench = of("nop\nj x\nx:");
        dueLink(bench, 0x0FFFFFF8, 8);
        dueWord(bench, 0x0FFFFFFC, 0x08000000);
        dueLink(bench, -8, 8);
        dueWord(bench, -4, 0x08000000);
        bench = of("nop\nx: j x");
        dueFault(bench, 0x0FFFFFF8, FAR, 0, 0);
        dueFault(bench, -8, FAR, 0, 0);
        dueLink(bench, 0x0FFFFFF0, 8);
    }

    private static void jumpRests() {
        Bench.about("its lowest two 0");
        for (int rest = 1; rest < 4; rest++) {
            dueFault(of("x: jal x+" + rest), 0, FAR, 0, 0);
            dueFault(of("nop", ".data\n.space " + rest + "\n.globl d\nd:", "j d"), 0, FAR, 2, 0);
        }
        dueLink(of("x: jal x+4\nnop"), 0, 8);
    }

    private static void branchBounds() {
        Bench.about("BRANCH: (S less the address behind it, 32 bits) by 4 .. -32768 .. 32767.");
        String x = ".globl x\nx: nop";
        Bench bench = of("b x+131068", x);
        dueLink(bench, 64, 8);
        dueWord(bench, 64, 0x10007FFF);
        dueFault(of("b x+131072", x), 64, FAR, 0, 0);
        bench = of("b x-131072", x);
        dueLink(bench, 0x100000, 8);
        dueWord(bench, 0x100000, 0x10008000);
        dueFault(of("b x-131076", x), 0x100000, FAR, 0, 0);
        bench = of("beq $1,$2,x\nbc1t 5,x+4\nbgezal $3,x-4", x);
        dueLink(bench, 0, 16);
        dueWord(bench, 0, 0x10220002);
        dueWord(bench, 4, 0x45150002);
        dueWord(bench, 8, 0x0471FFFF);
        bench = of("x: b d\n.data\n.word 1\nd: .word 2", "nop");
        dueLink(bench, 0, 16);
        dueWord(bench, 0, 0x10000002);
    }

    private static void branchRests() {
        Bench.about("BRANCH: .. without a rest");
        String x = ".globl x\nx:";
        for (int rest = 1; rest < 4; rest++) {
            dueFault(of("b x+" + rest, x), 0, FAR, 0, 0);
            dueFault(of("b x-" + rest, x), 0, FAR, 0, 0);
            dueFault(of("nop", "b d\n.data\n.space " + rest + "\nd:"), 0, FAR, 1, 0);
        }
    }

    /** The number's bounds are asked of 32 bits: over the end of all addresses it is near. */
    private static void branchesBy32Bits() {
        Bench.about("BRANCH: .. 32 bits");
        Bench bench = of("b x+0xFFFFFFF8", ".globl x\nx: nop");
        dueLink(bench, 0x40, 8);
        dueWord(bench, 0x40, 0x1000FFFE);
        bench = of("nop\nb x", ".globl x\nx: b y", ".globl y\nnop\ny:");
        dueLink(bench, -8, 16);
        dueWord(bench, -4, 0x10000000);
        dueWord(bench, 0, 0x10000001);
        dueFault(of("b x+0x80000000", ".globl x\nx:"), 0, FAR, 0, 0);
        dueFault(of("b x-2147483648", ".globl x\nx:"), 0, FAR, 0, 0);
    }

    private static void everyObject() {
        Bench.about("Then the relocations (of all eight objects)");
        Bench bench = new Bench();
        for (int i = 0; i < 8; i++) {
            bench.make(".globl x" + i + "\nx" + i + ": .word x" + (i + 1) % 8 + "\n");
        }
        dueLink(bench, 0x800, 32);
        for (int i = 0; i < 8; i++) {
            dueWord(bench, 0x800 + 4 * i, 0x800 + 4 * ((i + 1) % 8));
            Bench.due("address", bench.forge.address(i, 0), 0x800 + 4 * i);
            Bench.due("the other", bench.forge.address(i, 1), 0x800 + 4 * ((i + 1) % 8));
        }
    }

    /** Every limit of an object at once: symbols, relocations, bytes. */
    private static void fullObject() {
        Bench.about("Links all objects (64 symbols, 256 relocations, 4,096 bytes)");
        StringBuilder text = new StringBuilder();
        for (int i = 0; i < 63; i++) {
            text.append('s').append(i).append(':');
        }
        text.append(" .space 3072\nlast: .globl last,s5\n.word s5,last");
        for (int i = 2; i < 256; i++) {
            text.append(",s0");
        }
        Bench bench = of(text.toString(), "nop\nj s5\n.word last");
        Bench.due("symbols", bench.forge.count(2, 0), 64);
        Bench.due("relocations", bench.forge.count(3, 0), 256);
        Bench.due("bytes", bench.forge.size(0, 0), 4096);
        dueLink(bench, 0x10000, 4096 + 16);
        Bench.due("last", bench.forge.address(0, 63), 0x10000 + 3072);
        dueWord(bench, 0x10000 + 3072, 0x10000);
        dueWord(bench, 0x10000 + 3076, 0x10000 + 3072);
        dueWord(bench, 0x10000 + 4092, 0x10000);
        dueWord(bench, 0x10000 + 4100, 0x08004000);
        dueWord(bench, 0x10000 + 4104, 0x10000 + 3072);
    }

    /** What is between sections and in BSS is 0, whatever another image had there. */
    private static void zerosBetween() {
        Bench.about("The word at an address of the image (BSS, and what is between)");
        Bench bench = of(".word -1,-1,-1,-1,-1,-1,-1,-1,-1,-1");
        dueLink(bench, 0, 40);
        bench.forge.clear();
        bench.make(".word 1\n.data\n.byte 2\n.bss\n.space 3");
        bench.make(".data\n.byte 3\n.bss\n.space 8");
        dueLink(bench, 0, 40);
        int[] due = {1, 0, 0x02000000, 0, 0x03000000, 0, 0, 0, 0, 0};
        for (int i = 0; i < due.length; i++) {
            dueWord(bench, 4 * i, due[i]);
        }
    }

    private static void doubles() {
        Bench.about("1 DOUBLE: .. in two objects; told with .. (the second one's of a DOUBLE)");
        dueFault(of(".globl x\nx:", ".globl x\nx:"), 0, DOUBLE, 1, 0);
        dueFault(of("a: .globl x\nx:", "b: c: .globl x\nx:"), 0, DOUBLE, 1, 2);
        dueFault(of(".globl x\nx:", "x:", ".globl x", "a: .globl x\n.bss\nx:"), 0, DOUBLE, 3, 1);
        // Object by object, symbol by symbol.
        dueFault(of(".globl a,b\na: b:", ".globl c\nc:", ".globl d,c,b\nd: c: b:"),
                0, DOUBLE, 2, 1);
        dueFault(of(".globl a,b\na: b:", ".globl b\nb:", ".globl a\na:"), 0, DOUBLE, 1, 0);
        dueFault(of(".globl a,b\na: b:", ".globl b,a\nb: a:"), 0, DOUBLE, 1, 0);
        dueFault(of("nop", ".globl q\nq:", "nop", ".globl q\nq:", ".globl q\nq:"), 0, DOUBLE, 3, 0);
    }

    private static void doublesNotOfUndefined() {
        Bench.about("a name that is GLOBAL, and no UNDEFINED one");
        dueLink(of(".globl x\nx: nop", ".globl x", "x:", ".globl x\nb x"), 0, 8);
        dueLink(of("x:", ".globl x\nx:", "x:"), 0, 0);
        dueLink(of(".globl xx\nxx:", ".globl x,xxx,xy,Xx\nx: xxx: xy: Xx:"), 0, 0);
        dueFault(of(".globl x", ".globl x"), 0, NO_SUCH, 0, 0);
    }

    private static void nones() {
        Bench.about("2 NONE of it: an UNDEFINED symbol that no object has");
        dueFault(of("j u"), 0, NO_SUCH, 0, 0);
        dueFault(of(".globl u"), 0, NO_SUCH, 0, 0);
        dueFault(of("a: .globl a\nj b\nj c", ".globl b\nb:"), 0, NO_SUCH, 0, 2);
        dueFault(of("nop", "nop", "j a\nj b\n.globl c\nc:", "j c\nj d"), 0, NO_SUCH, 2, 0);
        dueFault(of(".globl x\nx: j y", ".globl y\ny: j z\nj x"), 0, NO_SUCH, 1, 1);
        // An object does not find its own.
        dueFault(of("x:", ".globl x\nj x"), 0, NO_SUCH, 1, 0);
    }

    private static void fars() {
        Bench.about("3 FAR: a JUMP or BRANCH that does not come there .. and the relocation's");
        dueFault(of("x: .word x\nla $4,x\nj x\nj x+1\nj x+2"), 0, FAR, 0, 4);
        dueFault(of("x: j x", "nop", "y: j y\nb u+1\nj y+1", ".globl u\nu: j u+3"), 0, FAR, 2, 1);
        dueFault(of("b x\nx: b u+2", ".globl u\nu:"), 0, FAR, 0, 0);
        // WORD, HIGH and LOW come everywhere.
        dueLink(of("x: .word x+1\nla $4,x+0x7FFFFFFF\nlw $4,x-3\nnop"), 0x7FFFFFF8, 24);
    }

    private static Bench full(int objects, String last) {
        Bench bench = new Bench();
        for (int i = 0; i < objects; i++) {
            Bench.due("object", bench.make(".space 4096"), i);
        }
        Bench.due("last object", bench.make(last), objects);
        return bench;
    }

    private static void great() {
        Bench.about("4 GREAT: text, data and bss together are more than 32,768 bytes");
        Bench bench = full(7, ".space 4096");
        dueLink(bench, 0, 32768);
        dueWord(bench, 32764, 0);
        Bench.dueIndex("behind it", () -> bench.forge.word(32768));
        dueFault(full(7, ".space 4096\n.data\n.byte 1"), 0, GREAT, -1, -1);
        dueFault(full(7, ".space 4096\n.bss\n.space 1"), 0, GREAT, -1, -1);
        dueLink(full(7, ".data\n.space 4096"), 0, 32768);
        dueLink(full(7, ".bss\n.space 4096"), 0, 32768);
        dueLink(full(6, ".space 4096\n.data\n.space 2048\n.bss\n.space 2048"), -32768, 32768);
        dueFault(full(6, ".space 4096\n.data\n.space 2048\n.bss\n.space 2049"), 0, GREAT, -1, -1);
        dueFault(full(6, ".space 4096\n.data\n.space 4096\n.bss\n.space 4096"), 0, GREAT, -1, -1);
        String most = ".space 4096\n.data\n.space 4096\n.bss\n.space 4096";
        dueFault(of(most, most, most, most, most, most, most, most), 0, GREAT, -1, -1);
        dueLink(of(most, most), 0, 24576);
    }

    private static void greatWithWhatIsBetween() {
        Bench.about("with what is between them");
        // 28,672 of TEXT, 1 of DATA up to the next multiple of 8, and BSS.
        dueLink(full(6, ".space 4096\n.data\n.byte 1\n.bss\n.space 4088"), 0, 32768);
        dueFault(full(6, ".space 4096\n.data\n.byte 1\n.bss\n.space 4089"), 0, GREAT, -1, -1);
        dueLink(full(6, ".space 4089\n.data\n.space 4081\n.bss\n.space 8"), 0, 32768);
        dueLink(full(6, ".space 4092\n.data\n.space 4088\n.bss\n.space 8"), 0, 32768);
        dueFault(full(6, ".space 4092\n.data\n.space 4089\n.bss\n.space 1"), 0, GREAT, -1, -1);
    }

    private static void orderOfFaults() {
        Bench.about("all DOUBLEs, object by object .. then NONEs, then FARs .. GREAT ahead of all");
        String far = "w: j w+1\n";
        String none = "j u\n";
        String twice = ".globl x\nx:\n";
        dueFault(of(far + none, none + far, twice, twice), 0, DOUBLE, 3, 0);
        dueFault(of(none + twice, far, twice), 0, DOUBLE, 2, 0);
        dueFault(of(far, twice, far + none), 0, NO_SUCH, 2, 1);
        dueFault(of(far, far + none, none), 0, NO_SUCH, 1, 1);
        dueFault(of("nop", far + far.replace("w: ", ""), far), 0, FAR, 1, 0);
        Bench bench = full(3, far + none + twice);
        bench.make(twice);
        bench.make(".space 4096\n.data\n.space 4096\n.bss\n.space 4096");
        bench.make(".space 4096\n.data\n.space 4096\n.bss\n.space 4096");
        dueFault(bench, 0, GREAT, -1, -1);
    }

    private static void noImageAtAFault() {
        Bench.about("NONE at a fault (there is no image then)");
        String[][] faulty = {{".globl x\nx:", ".globl x\nx:"}, {"x: j u"}, {"x: j x+1"}};
        for (String[] texts : faulty) {
            Bench bench = of("a: .word 7,7");
            dueLink(bench, 0, 8);
            for (String text : texts) {
                bench.make(text);
            }
            dueWord(bench, 0, 7);
            Bench.due("link", bench.forge.link(0), ObjectForge.NONE);
            Bench.dueIndex("word", () -> bench.forge.word(0));
            Bench.dueState("address", () -> bench.forge.address(0, 0));
            Bench.due("objects are left", bench.forge.count(1, 0), texts.length + 1);
        }
        Bench great = of("a: .word 7,7");
        dueLink(great, 0, 8);
        for (int i = 0; i < 4; i++) {
            great.make(".space 4096\n.data\n.space 4096\n.bss\n.space 4096");
        }
        Bench.due("link", great.forge.link(0), ObjectForge.NONE);
        Bench.dueIndex("word", () -> great.forge.word(0));
        Bench.dueState("address", () -> great.forge.address(0, 0));
    }

    private static void linkedAgain() {
        Bench.about("Links all objects at a base (each time anew)");
        Bench bench = of("x: .word x\nj x\nla $4,x\nbeq $1,$2,d\nnop\n.data\nd: .word d-1,5");
        int[][] due = {{0, 0, 0x08000000, 0x3C040000, 0x24840000, 0x10220001, 0, 23},
            {0x18000, 0x18000, 0x08006000, 0x3C040002, 0x24848000, 0x10220001, 0, 0x18017}};
        for (int round = 0; round < 4; round++) {
            int[] row = due[round % 2];
            dueLink(bench, row[0], 32);
            for (int i = 0; i < 5; i++) {
                dueWord(bench, row[0] + 4 * i, row[i + 1]);
            }
            dueWord(bench, row[0] + 24, row[7]);
            // The object itself is left alone.
            Bench.due("its word", bench.wordOf(0, 0, 0), 0);
            Bench.due("its jump", bench.wordOf(0, 0, 4), 0x08000000);
            Bench.due("its relocations", bench.forge.count(3, 0), 6);
        }
    }
}
