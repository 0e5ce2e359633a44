/** Promise 4: SECTIONS and DIRECTIVES; promises 6 and 7: size, byteAt. */
public final class DirectiveTest {
    public static void main(String[] args) {
        sections();
        data();
        zeros();
        wrongOperands();
        places();
        sizesAndBytes();
        Bench.close("DirectiveTest");
    }

    private static void fault(String line, int fault) {
        Bench.dueFault(line, fault, 1);
    }

    private static void sections() {
        Bench bench = Bench.made("nop\n.data\n.byte 1\n.bss\n.space 3\n.text\nnop\n.data\n.byte 2\n"
                + ".bss\n.space 4\nend:");
        Bench.due("text", bench.forge.size(0, 0), 8);
        Bench.due("data", bench.forge.size(0, 1), 2);
        Bench.due("bss", bench.forge.size(0, 2), 7);
        Bench.due("second byte", bench.forge.byteAt(0, 1, 1), 2);
        bench.dueSymbol(0, 0, "end", 2, 7, 0);
        // The section of one text is not that of the next.
        Bench.due("next", bench.make("x: .byte 9"), 1);
        bench.dueSymbol(1, 0, "x", 0, 0, 0);
        Bench.due("its text", bench.forge.byteAt(1, 0, 0), 9);
        Bench.due("its data", bench.forge.size(1, 1), 0);
    }

    private static void data() {
        Bench.dueData(".data\n.word 0x01020304 , -2\n.half 65535,-32768,0x102\n.byte 255,-128,7\n",
                1, 2, 3, 4, 255, 255, 255, 254, 255, 255, 128, 0, 1, 2, 255, 128, 7);
        Bench.dueWords(".word 5\n.byte 1,2,3\n.ascii \"a\"\n.half 1,2", 5, 0x01020361, 0x00010002);
        Bench.dueFault("\n.half 65536", Bench.RANGE, 2);
        Bench.dueFault("\n.half -32769", Bench.RANGE, 2);
        Bench.dueFault("\n.byte 256", Bench.RANGE, 2);
        Bench.dueFault("\n.byte 1,-129", Bench.RANGE, 2);
    }

    private static void zeros() {
        Bench.dueData(".data\n.space 0\n.byte 1\n.align 0\n.byte 2\n.align 1\n.byte 3\n.align 2\n"
                + ".byte 4\n.align 3\n.byte 5\n.space 2\n.align 3\n.align 3\n",
                1, 2, 3, 0, 4, 0, 0, 0, 5, 0, 0, 0, 0, 0, 0, 0);
        Bench bench = Bench.made(".bss\n.space 4096\n.align 3\n.space 0\n");
        Bench.due("bss", bench.forge.size(0, 2), 4096);
        // What an abandoned or longer text left behind must not shine through.
        Bench again = new Bench();
        again.make(".word -1,-1,-1\n foo");
        again.make(".space 12");
        for (int i = 0; i < 12; i++) {
            Bench.due("byte " + i, again.forge.byteAt(0, 0, i), 0);
        }
        fault(".space 4097", Bench.RANGE);
        fault(".space -1", Bench.RANGE);
        fault(".align 4", Bench.RANGE);
        fault(".align -1", Bench.RANGE);
    }

    private static void wrongOperands() {
        for (String name : new String[] {".globl", ".word", ".half", ".byte", ".space", ".align",
            ".ascii", ".asciiz"}) {
            fault(name, Bench.OPERANDS);
            fault(name + " ,", Bench.OPERANDS);
            fault(name + " $1", Bench.OPERANDS);
            fault(name + " @", Bench.BYTE);
            fault(name + " %lo(x)", Bench.OPERANDS);
        }
        for (String text : new String[] {".text x", ".data 1", ".bss ,", ".globl 5", ".globl a b",
            ".globl a,", ".globl a,5", ".word 1,", ".word 1 2", ".word \"a\"", ".half x",
            ".half 1,", ".byte x", ".byte 1 2", ".space x", ".space 1,2", ".align x", ".align 1,1",
            ".ascii \"a\",", ".ascii 5", ".asciiz \"a\" 5"}) {
            fault(text, Bench.OPERANDS);
        }
        fault(".word 1,@", Bench.BYTE);
        fault(".globl a,@", Bench.BYTE);
        fault(".words 1", Bench.OPERATION);
    }

    private static void places() {
        for (String text : new String[] {".word 1", ".half 1", ".byte 1", ".ascii \"a\"",
            ".asciiz \"a\"", "nop", "la $1,x", ".word", ".byte @", "add"}) {
            Bench.dueFault(".bss\nx: " + text, Bench.PLACE, 2);
        }
        Bench.dueFault(".data\nnop", Bench.PLACE, 2);
        Bench.dueFault(".data\nnop @", Bench.PLACE, 2);
        for (int odd = 1; odd < 4; odd++) {
            Bench.dueFault(".space " + odd + "\nnop", Bench.PLACE, 2);
            Bench.dueFault(".space " + odd + "\n.word 1", Bench.PLACE, 2);
            Bench.dueFault(".data\n.space " + odd + "\n.word @", Bench.PLACE, 3);
        }
        Bench.dueFault(".byte 1\n.half 1", Bench.PLACE, 2);
        Bench.dueFault(".byte 1,2,3\n.half 1", Bench.PLACE, 2);
        Bench.made(".byte 1,2\n.half 1\nnop");
        Bench.made(".byte 1\n.byte 1\n.ascii \"a\"\n.bss\n.space 1\n.align 2\n.globl x\n.data");
    }

    private static void sizesAndBytes() {
        Bench bench = Bench.made("nop\n.data\n.byte 200\n.bss\n.space 2");
        ObjectForge forge = bench.forge;
        Bench.due("text", forge.size(0, 0), 4);
        Bench.due("data", forge.size(0, 1), 1);
        Bench.due("bss", forge.size(0, 2), 2);
        Bench.due("byte", forge.byteAt(0, 1, 0), 200);
        Bench.dueIndex("section 3", () -> forge.size(0, 3));
        Bench.dueIndex("section -1", () -> forge.size(0, -1));
        Bench.dueIndex("object 1", () -> forge.size(1, 0));
        Bench.dueIndex("object -1", () -> forge.size(-1, 0));
        Bench.dueIndex("byte behind", () -> forge.byteAt(0, 0, 4));
        Bench.dueIndex("byte behind the data", () -> forge.byteAt(0, 1, 1));
        Bench.dueIndex("byte ahead", () -> forge.byteAt(0, 0, -1));
        Bench.dueIndex("byte of BSS", () -> forge.byteAt(0, 2, 0));
        Bench.dueIndex("byte of section 3", () -> forge.byteAt(0, 3, 0));
        Bench.dueIndex("byte of section -1", () -> forge.byteAt(0, -1, 0));
        Bench.dueIndex("byte of object 1", () -> forge.byteAt(1, 0, 0));
        Bench.dueIndex("byte of object -1", () -> forge.byteAt(-1, 0, 0));
        Bench.dueIndex("far byte", () -> forge.byteAt(0, 0, Integer.MAX_VALUE));
    }
}
