/** Promises 4 and 5: FAULTS of a text, which of them is told, and its line. */
public final class FaultTest {
    public static void main(String[] args) {
        firstLine();
        firstFromTheLeft();
        twice();
        branches();
        manyBytes();
        manySymbols();
        manyRelocations();
        ofTheLatest();
        eightObjects();
        Bench.close("FaultTest");
    }

    private static void firstLine() {
        Bench.dueFault("@", Bench.BYTE, 1);
        Bench.dueFault("nop\nfoo\n@", Bench.OPERATION, 2);
        Bench.dueFault("\n\n\n\nadd", Bench.OPERANDS, 5);
        Bench.dueFault("#\n.byte 256", Bench.RANGE, 2);
        StringBuilder text = new StringBuilder();
        for (int i = 1; i < 4000; i++) {
            text.append('\n');
        }
        Bench.dueFault(text + "@", Bench.BYTE, 4000);
    }

    private static void firstFromTheLeft() {
        Bench.dueFault("foo @", Bench.OPERATION, 1);
        Bench.dueFault("a: a: @", Bench.TWICE, 1);
        Bench.dueFault("a: @ a:", Bench.BYTE, 1);
        Bench.dueFault("sll 5,@", Bench.OPERANDS, 1);
        Bench.dueFault("sll @,5", Bench.BYTE, 1);
        Bench.dueFault("sll $1,$2,32 @", Bench.RANGE, 1);
        Bench.dueFault("sll $1,$2,31 @", Bench.BYTE, 1);
        Bench.dueFault(".byte 256,@", Bench.RANGE, 1);
        Bench.dueFault(".byte @,256", Bench.BYTE, 1);
        Bench.dueFault(".data\na: foo", Bench.OPERATION, 2);
        Bench.dueFault(".data\na: add @", Bench.PLACE, 2);
        Bench.dueFault("a:\n.data\na: add", Bench.TWICE, 3);
    }

    private static void twice() {
        Bench.dueFault("a:\na:", Bench.TWICE, 2);
        Bench.dueFault("a:\n.data\na:", Bench.TWICE, 3);
        Bench.dueFault("a: b: a: nop", Bench.TWICE, 1);
        Bench.made("b a\n.globl a\na: A: a.:");
    }

    private static void branches() {
        Bench.dueWords("x: b y\nnop\ny: beq $1,$2,x\nbne $1,$2,x+4\nb y-8\nb z\nz:",
                0x10000001, 0, 0x1022FFFD, 0x1422FFFD, 0x1000FFFB, 0x10000000);
        Bench.dueFault("nop\nx: b x+2", Bench.RANGE, 2);
        Bench.dueFault("x: nop\nb x+1\nb x-1", Bench.RANGE, 2);
        Bench.dueWords("x: b x+131072", 0x10007FFF);
        Bench.dueFault("x: b x+131076", Bench.RANGE, 1);
        Bench.dueWords("x: b x-131068", 0x10008000);
        Bench.dueFault("x: b x-131072", Bench.RANGE, 1);
        // The number is taken as it is told, not by its 32 bits.
        Bench.dueFault("x: b x+4294967292", Bench.RANGE, 1);
        // Behind all lines only, so that another line's fault is told instead.
        Bench.dueFault("x: b x+2\nfoo", Bench.OPERATION, 2);
        Bench.dueFault("x: bltu $1,$2,y+2\nb x+2\ny:", Bench.RANGE, 1);
        // Other sections' symbols and UNDEFINED ones are the linker's.
        Bench bench = Bench.dueWords("b d+2\nb u+1\nb t\nt:\n.data\nd:", 0x10000000, 0x10000000,
                0x10000000);
        Bench.due("relocations", bench.forge.count(3, 0), 2);
        bench.dueRelocation(0, 0, 0, 0, 10, 0, 2);
        bench.dueRelocation(0, 1, 0, 4, 10, 1, 1);
    }

    private static void manyBytes() {
        String[] sections = {".text\n", ".data\n", ".bss\n"};
        for (String section : sections) {
            Bench.made(section + ".space 4096\n.align 3\n.space 0\nx:");
            Bench.dueFault(section + ".space 4096\n.space 1", Bench.MANY, 3);
            Bench.dueFault(section + ".space 4095\n.space 2 x", Bench.MANY, 3);
            Bench.dueFault(section + ".space 4095\n.space 4097", Bench.RANGE, 3);
        }
        Bench.made(".space 4092\nnop\n.data\n.space 4092\n.word 1\n.bss\n.space 4096");
        Bench.dueFault(".space 4096\nnop", Bench.MANY, 2);
        Bench.dueFault(".space 4096\nnop @", Bench.MANY, 2);
        Bench.dueFault(".space 4096\nadd $1,$2,@", Bench.BYTE, 2);
        Bench.dueFault(".space 4096\nadd $1,$2,$3 @", Bench.MANY, 2);
        Bench.dueFault(".space 4092\nla $1,x", Bench.MANY, 2);
        Bench.dueFault(".space 4092\nlw $1,x", Bench.MANY, 2);
        Bench.dueFault(".space 4092\nli $1,70000", Bench.MANY, 2);
        Bench.dueFault(".space 4092\ndiv $1,$2,$3", Bench.MANY, 2);
        Bench.dueFault(".space 4092\nblt $1,$2,x", Bench.MANY, 2);
        Bench.made(".space 4092\nli $1,7");
        Bench.dueFault(".space 4092\n.word 1,2,@", Bench.MANY, 2);
        Bench.dueFault(".space 4092\n.word 1,@,2", Bench.BYTE, 2);
        Bench.dueFault(".space 4094\n.half 1,2,99999", Bench.MANY, 2);
        Bench.dueFault(".space 4095\n.byte 1,2,256", Bench.MANY, 2);
        Bench.dueFault(".space 4095\n.byte 1,256", Bench.RANGE, 2);
        Bench.dueFault(".space 4095\n.ascii \"ab\" @", Bench.MANY, 2);
        Bench.dueFault(".space 4095\n.asciiz \"a\",5", Bench.MANY, 2);
        Bench.made(".space 4095\n.asciiz \"\"");
        Bench.made(".space 4095\n.ascii \"a\",\"\"");
    }

    /** So many labels s0, s1, .. on lines of their own. */
    private static String labels(int many) {
        StringBuilder text = new StringBuilder();
        for (int i = 0; i < many; i++) {
            text.append('s').append(i).append(":\n");
        }
        return text.toString();
    }

    private static void manySymbols() {
        Bench bench = Bench.made(labels(64) + "b s0\n.globl s63\nla $1,s5");
        Bench.due("symbols", bench.forge.count(2, 0), 64);
        Bench.dueFault(labels(65), Bench.MANY, 65);
        Bench.dueFault(labels(64) + "x: @", Bench.MANY, 65);
        Bench.dueFault(labels(64) + "s0:", Bench.TWICE, 65);
        Bench.dueFault(labels(64) + ".globl s1,x,@", Bench.MANY, 65);
        Bench.dueFault(labels(64) + ".globl s1 x", Bench.OPERANDS, 65);
        Bench.dueFault(labels(64) + ".globl x x", Bench.MANY, 65);
        Bench.dueFault(labels(64) + ".word x @", Bench.MANY, 65);
        Bench.dueFault(labels(64) + ".word x+@", Bench.BYTE, 65);
        Bench.dueFault(labels(64) + "b x @", Bench.MANY, 65);
        Bench.dueFault(labels(64) + "lui $1,%hi(x", Bench.OPERANDS, 65);
        Bench.dueFault(labels(64) + "lui $1,%hi(x) @", Bench.MANY, 65);
        Bench.dueFault(labels(64) + "lw $1,x($2)", Bench.MANY, 65);
        Bench.dueFault(labels(63) + "x: la $1,y", Bench.MANY, 64);
    }

    private static String times(String line, int many) {
        StringBuilder text = new StringBuilder();
        for (int i = 0; i < many; i++) {
            text.append(line);
        }
        return text.toString();
    }

    private static void manyRelocations() {
        Bench bench = Bench.made(times(".word x\n", 256));
        Bench.due("relocations", bench.forge.count(3, 0), 256);
        Bench.dueFault(times(".word x\n", 257), Bench.MANY, 257);
        Bench.dueFault(times(".word x\n", 255) + "la $1,x @", Bench.MANY, 256);
        Bench.dueFault(times(".word x\n", 256) + ".word 1,x,@", Bench.MANY, 257);
        Bench.made(times(".word x\n", 256) + ".word 1,2\n nop");
        // A branch within TEXT counts while the lines come, though no relocation is left of it.
        bench = Bench.made("x:" + times("b x\n", 256) + "nop");
        Bench.due("none is left", bench.forge.count(3, 0), 0);
        Bench.dueFault("x:" + times("b x\n", 257), Bench.MANY, 257);
        Bench.dueFault("x:" + times("b x\n", 256) + "j x", Bench.MANY, 257);
        bench = Bench.made("x:" + times("b x\n", 100) + times("bal y\n", 100) + times("j x\n", 56));
        Bench.due("the others are left", bench.forge.count(3, 0), 156);
        bench.dueRelocation(0, 0, 0, 400, 10, 1, 0);
        bench.dueRelocation(0, 155, 0, 1020, 4, 0, 0);
    }

    private static void ofTheLatest() {
        Bench bench = new Bench();
        bench.make("\nfoo");
        Bench.due("fault", bench.forge.fault(0), Bench.OPERATION);
        Bench.due("line", bench.forge.fault(1), 2);
        Bench.due("clear", bench.forge.clear(), 0);
        Bench.due("fault is left", bench.forge.fault(0), Bench.OPERATION);
        bench.make("nop");
        Bench.due("no fault", bench.forge.fault(0), 0);
        Bench.due("no line", bench.forge.fault(1), 0);
        Bench.dueIndex("fault -1", () -> bench.forge.fault(-1));
        Bench.dueIndex("fault 5", () -> bench.forge.fault(5));
    }

    private static void eightObjects() {
        Bench bench = new Bench();
        for (int i = 0; i < 8; i++) {
            Bench.due("a fault between", bench.make("\n@"), ObjectForge.NONE);
            Bench.due("object", bench.make("x" + i + ":"), i);
        }
        bench.feed("nop");
        Bench.dueThrow("a ninth", IllegalStateException.class, () -> bench.forge.assemble());
        Bench.due("its text is used up", bench.forge.count(0, 0), 0);
        bench.feed("\n@");
        Bench.dueThrow("a wrong ninth", IllegalStateException.class, () -> bench.forge.assemble());
        Bench.due("the fault is the former one's", bench.forge.fault(0), 0);
        Bench.due("and its line", bench.forge.fault(1), 0);
        Bench.due("objects", bench.forge.count(1, 0), 8);
        for (int i = 0; i < 8; i++) {
            bench.dueSymbol(i, 0, "x" + i, 0, 0, 0);
        }
    }
}
