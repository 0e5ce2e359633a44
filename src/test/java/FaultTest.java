/** Promises 4 and 5, FAULTS 1 to 7: what each of them is, their limits and their order. */
public final class FaultTest {
    /** What no token is: a byte, a NAME, NUMBERS, a STRING, REGISTERS, FRACTIONS. */
    private static final String[] NO_TOKENS = {"@", "\\", "\0", "abcdefghijklmnopqrstuvwxy",
        "4294967296", "0x", "0x100000000", "''", "'ab'", "'\\x'", "\"abc", "\"\\x\"", "$", "$32",
        "$01", "$xx", "$zeroo", "$f32", "$f01", "$f"};

    /** Each fault by a line of its own, once a: and .byte 1 have been there. */
    private static final String[] FAULTY = {"", "@", "foo", ".byte", ".byte 256", "a:", "nop",
        ".space 4096"};

    public static void main(String[] args) {
        lineNumbers();
        firstLine();
        fromTheLeft();
        byteWherever();
        minusWhereNoNumberCanStand();
        minusWhereOneCan();
        operationAheadOfOperands();
        rangeAheadOfWhatIsBehind();
        twice();
        twiceOnlyOfLabels();
        placeAheadOfOperands();
        placeBehindLabels();
        manyBytesBehindOperands();
        manyBytesAheadOfTheRest();
        sixtyFourSymbols();
        manySymbolsBehindOperands();
        manySymbolsAheadOfTheRest();
        relocationLimit();
        allBranchesCount();
        twoRelocationsOfALine();
        manyRelocationsAheadOfTheRest();
        branchesBehindAllLines();
        branchesByLines();
        textUsedUp();
        eightObjects();
        Bench.close("FaultTest");
    }

    private static String times(String part, int many) {
        StringBuilder text = new StringBuilder();
        for (int i = 0; i < many; i++) {
            text.append(part);
        }
        return text.toString();
    }

    /** One line with so many labels s0:, s1:, .. */
    private static String labels(int many) {
        StringBuilder text = new StringBuilder();
        for (int i = 0; i < many; i++) {
            text.append('s').append(i).append(':');
        }
        return text.append('\n').toString();
    }

    /** Lines .word with so many relocations. */
    private static String relocations(int many) {
        return ".word s0" + times(",s0", many - 1) + "\n";
    }

    private static void lineNumbers() {
        Bench.about("the first line that has one, told with its number from 1 on");
        for (int line : new int[] {1, 2, 3, 10, 255, 256, 257, 4000, 8000}) {
            Bench.dueFault(times("\n", line - 1) + "@", Bench.BYTE, line);
        }
        Bench.dueFault("nop\n# @\n\nx:\n\t\nfoo\n\n", Bench.OPERATION, 6);
    }

    private static void firstLine() {
        Bench.about("FAULTS, the first line that has one");
        for (int first = 1; first <= 7; first++) {
            for (int second = 1; second <= 7; second++) {
                Bench.dueFault("a:\n.byte 1\n" + FAULTY[first] + "\n" + FAULTY[second], first, 3);
                Bench.dueFault("a:\n.byte 1\n\n" + FAULTY[first] + "\n" + FAULTY[second] + "\n",
                        first, 4);
            }
        }
    }

    private static void fromTheLeft() {
        Bench.about("in a line the first one from the left");
        String[][] rows = {
            {"@ foo", "1"}, {"@ a: a:", "1"}, {"a: @ a:", "1"}, {"add @,5,$1", "1"},
            {"sll $1,@,32", "1"}, {".byte @,256", "1"},
            {"foo @", "2"}, {"foo $32", "2"}, {"foo a: a:", "2"}, {"b: foo @", "2"},
            {"add 5,@", "3"}, {"add $1 @,$2", "1"}, {"add $1,5 @", "3"}, {"sll $1,5,32", "3"},
            {".byte x,256", "3"}, {".byte ,@", "3"}, {": @", "3"}, {"5 foo", "3"},
            {"sll $1,$2,32 @", "4"}, {"sll $1,$2,32,5", "4"}, {".byte 256,@", "4"},
            {".byte 256,x", "4"}, {".byte 1,256 x", "4"}, {"lw $1,32768", "4"},
            {"lw $1,32768(@", "4"}, {"lw $1,32768($f1)", "4"}, {"bc1t 8,@", "4"},
            {".half 1,99999,@", "4"},
            {"b: b: @", "5"}, {"b: b: foo", "5"}, {"b: b: add", "5"}, {"b: c: b: .byte 256", "5"},
        };
        for (String[] row : rows) {
            Bench.dueFault(row[0], row[1].charAt(0) - '0', 1);
        }
    }

    private static void byteWherever() {
        Bench.about("1 BYTE: .. that is none or too great, wherever it stands (so ahead of 3");
        String[] aheads = {"", "a: ", "a: b:", "nop ", "nop\t", "add ", "add $1,", "add $1,$2 ",
            "add $1,$2,$3 ", "addiu $1,$2,", "lui $1,%", "lui $1,%hi ", "lui $1,%hi(",
            "lui $1,%hi(5 ", "lui $1,%hi(x+", "lw $1,", "lw $1,4 ", "lw $1,4(",
            "lw $1,4($2 ", "lw $1,4($2) ", "b ", "b x ", "b x+", "b x+4 ", "bc1t ", "bc1t 1 ",
            "bc1t 1,", "syscall ", "syscall 5 ", "c.eq.s ", "c.eq.s 1,", "add.d $f1,", "li $1,",
            "la $1,", "la $1,x ", "jalr ", "jalr $1,", "div $1,$2,", ".text ", ".data ", ".globl ",
            ".globl x ", ".globl x,", ".word ", ".word 1 ", ".word x-", ".word 1,", ".half ",
            ".byte ", ".byte 1,", ".space ", ".align ", ".ascii ", ".ascii \"\",", ".asciiz "};
        for (String ahead : aheads) {
            for (String none : NO_TOKENS) {
                Bench.dueFault(ahead + none, Bench.BYTE, 1);
            }
        }
    }

    private static void minusWhereNoNumberCanStand() {
        Bench.about("but a - where no NUMBER can stand is 3");
        for (String line : new String[] {"-", "-5", "- nop", "a: -", "nop -", "nop -5", "nop -x",
            "jr -", "jr -1", "jr -$1", "add $1,-$2,$3", "add $1,-2,$3", "add $1,$2 - $3", "b -",
            "b -x", "b -5", "j -99999999999", "la $1,-5", "la $1,-", "mov.s $f1,-$f2",
            ".globl -x", ".globl -", ".ascii -\"a\"", ".ascii -", ".text -", ".data -5",
            ".word 5 -", ".word 5-3", ".byte 1 -1", "lw $1,4-", "lw $1,4(-", "lw $1,4(-1)",
            "lw $1,4($2)-", "lw $1,4($2-", "lui $1,%-hi(5)", "lui $1,%hi-(5)", "lui $1,%hi(5-",
            "syscall 5 -", "bc1t x-", "c.eq.s $f1,-$f2"}) {
            Bench.dueFault(line, Bench.OPERANDS, 1);
        }
    }

    private static void minusWhereOneCan() {
        Bench.about("a NUMBER that is none or too great");
        for (String ahead : new String[] {".word ", ".half ", ".byte 1,", ".space ", ".align ",
            "li $1,", "addiu $1,$2,", "ori $1,$2,", "lui $1,%hi(", "sll $1,$2,", "lw $1,"}) {
            for (String none : new String[] {"-2147483649", "-4294967295", "-4294967296",
                "-0x", "-''", "-@"}) {
                Bench.dueFault(ahead + none, Bench.BYTE, 1);
            }
        }
    }

    private static void operationAheadOfOperands() {
        Bench.about("2 OPERATION: there is none such");
        String[] behinds = {"", " @", " $32", " 5", " $1,$2", " \"abc", ", :", " -"};
        for (String behind : behinds) {
            Bench.dueFault("foo" + behind, Bench.OPERATION, 1);
            Bench.dueFault("a: .foo" + behind, Bench.OPERATION, 1);
            Bench.dueFault(".data\na: foo" + behind, Bench.OPERATION, 2);
            Bench.dueFault(".byte 1\nfoo" + behind, Bench.OPERATION, 2);
        }
    }

    private static void rangeAheadOfWhatIsBehind() {
        Bench.about("4 RANGE: a number beyond its operand's bounds");
        for (String line : new String[] {"sll $1,$2,32", "addiu $1,$2,32768", "ori $1,$2,-1",
            "lui $1,65536", "syscall 1048576", "break -1", "c.eq.s 8,$f1,$f2", "bc1t -1,x",
            "lw $1,32768($2)", ".half 65536", ".byte -129", ".space 4097", ".align 4",
            ".byte 1,2,256,3"}) {
            Bench.dueFault(line, Bench.RANGE, 1);
            Bench.dueFault(line + " @", Bench.RANGE, 1);
            Bench.dueFault(line + ",", Bench.RANGE, 1);
            Bench.dueFault("a: b: " + line + " $1", Bench.RANGE, 1);
        }
    }

    private static void twice() {
        Bench.about("5 TWICE: a label that there is");
        Bench.dueFault("a: a:", Bench.TWICE, 1);
        Bench.dueFault("a:\na:", Bench.TWICE, 2);
        Bench.dueFault("a: b: a: nop", Bench.TWICE, 1);
        Bench.dueFault("a:\n.data\na:", Bench.TWICE, 3);
        Bench.dueFault("a:\n.bss\nb: a: .word @", Bench.TWICE, 3);
        Bench.dueFault("b a\n.globl a\na:\nnop\na: @", Bench.TWICE, 5);
        Bench.dueFault("abcdefghijklmnopqrstuvwx:\nabcdefghijklmnopqrstuvwx:", Bench.TWICE, 2);
        Bench.dueFault(labels(64) + "s63:", Bench.TWICE, 2);
        Bench.dueFault(labels(64) + "s0: @", Bench.TWICE, 2);
    }

    private static void twiceOnlyOfLabels() {
        Bench.about("5 TWICE: a label that there is (and nothing else)");
        Bench.made(".globl a\n.globl a,a\nb a\nla $4,a\na: A: aa: a.: nop: .word a,a\n.globl a");
        // In another text it is another one.
        Bench bench = Bench.made("a:");
        Bench.due("second", bench.make("a:"), 1);
        Bench.due("a fault", bench.make("b: @"), ObjectForge.NONE);
        Bench.due("third", bench.make("b:"), 2);
    }

    private static void placeAheadOfOperands() {
        Bench.about("6 PLACE: .. (of an operation, ahead of its operands)");
        String[] operands = {"", " @", " $32", " 5,6,7,8", " \"abc", " ,", " -", " 4294967296"};
        for (String operand : operands) {
            for (String name : new String[] {"add", "nop", "lw", "la", "b", "c.eq.s", "div"}) {
                Bench.dueFault(".data\n" + name + operand, Bench.PLACE, 2);
                Bench.dueFault(".bss\n" + name + operand, Bench.PLACE, 2);
                Bench.dueFault(".byte 1\n" + name + operand, Bench.PLACE, 2);
                Bench.dueFault(".half 1\n" + name + operand, Bench.PLACE, 2);
            }
            for (String name : new String[] {".word", ".half", ".byte", ".ascii", ".asciiz"}) {
                Bench.dueFault(".bss\n" + name + operand, Bench.PLACE, 2);
            }
            Bench.dueFault(".half 1\n.word" + operand, Bench.PLACE, 2);
            Bench.dueFault(".data\n.byte 1\n.word" + operand, Bench.PLACE, 3);
            Bench.dueFault(".data\n.byte 1\n.half" + operand, Bench.PLACE, 3);
        }
        // The others have no places.
        Bench.dueFault(".bss\n.space @", Bench.BYTE, 2);
        Bench.dueFault(".bss\n.align", Bench.OPERANDS, 2);
        Bench.dueFault(".bss\n.globl 5", Bench.OPERANDS, 2);
        Bench.dueFault(".byte 1\n.byte 256", Bench.RANGE, 2);
        Bench.dueFault(".byte 1\n.ascii 5", Bench.OPERANDS, 2);
    }

    private static void placeBehindLabels() {
        Bench.about("in a line the first one from the left (6 at the operation)");
        Bench.dueFault("a:\n.data\na: nop", Bench.TWICE, 3);
        Bench.dueFault(".data\na: @ nop", Bench.BYTE, 2);
        Bench.dueFault(".data\na: foo", Bench.OPERATION, 2);
        Bench.dueFault(".data\na: nop", Bench.PLACE, 2);
        Bench.dueFault(".data\n" + labels(64) + "x: nop", Bench.MANY, 3);
        Bench.dueFault(".space 4096\n.data\nnop", Bench.PLACE, 3);
    }

    private static void manyBytesBehindOperands() {
        Bench.about("7 MANY (when it comes, behind the operands that it comes of");
        String full = ".space 4096\n";
        Bench.dueFault(full + "add $1,$2,@", Bench.BYTE, 2);
        Bench.dueFault(full + "add $1,$2", Bench.OPERANDS, 2);
        Bench.dueFault(full + "add $1,$2,5", Bench.OPERANDS, 2);
        Bench.dueFault(full + "sll $1,$2,32", Bench.RANGE, 2);
        Bench.dueFault(full + "lw $1,4($2", Bench.OPERANDS, 2);
        Bench.dueFault(full + "la $1,x+@", Bench.BYTE, 2);
        Bench.dueFault(full + "li $1,4294967296", Bench.BYTE, 2);
        Bench.dueFault(full + ".word @", Bench.BYTE, 2);
        Bench.dueFault(full + ".half 65536", Bench.RANGE, 2);
        Bench.dueFault(full + ".byte x", Bench.OPERANDS, 2);
        Bench.dueFault(full + ".space 4097", Bench.RANGE, 2);
        Bench.dueFault(full + ".space", Bench.OPERANDS, 2);
        Bench.dueFault(full + ".ascii 5", Bench.OPERANDS, 2);
        Bench.dueFault(full + ".ascii \"abc", Bench.BYTE, 2);
        Bench.dueFault(".space 4095\n.byte 1,256", Bench.RANGE, 2);
        Bench.dueFault(".space 4092\n.word 1,@,2", Bench.BYTE, 2);
        Bench.dueFault(".space 4095\n.align 4", Bench.RANGE, 2);
        // Operands that may be missing, but are there.
        for (String line : new String[] {"syscall 1048576", "break -1"}) {
            Bench.dueFault(full + line, Bench.RANGE, 2);
        }
        for (String line : new String[] {"syscall 4294967296", "syscall 0x", "break 'ab'",
            "break -4294967295", "jalr $1,@", "div $1,$2,$32", "divu $1,$2,@"}) {
            Bench.dueFault(full + line, Bench.BYTE, 2);
        }
        for (String line : new String[] {"jalr $1,", "jalr $1,5", "div $1,$2,", "divu $1,$2,5"}) {
            Bench.dueFault(full + line, Bench.OPERANDS, 2);
        }
    }

    private static void manyBytesAheadOfTheRest() {
        Bench.about("ahead of what stands behind them)");
        String full = ".space 4096\n";
        for (String behind : new String[] {"", " @", " $1", ",5", " :"}) {
            Bench.dueFault(full + "add $1,$2,$3" + behind, Bench.MANY, 2);
            Bench.dueFault(full + "jr $1" + behind, Bench.MANY, 2);
            Bench.dueFault(full + "li $1,5" + behind, Bench.MANY, 2);
            Bench.dueFault(".space 4092\nli $1,65537" + behind, Bench.MANY, 2);
            Bench.dueFault(full + "lw $1,4($2)" + behind, Bench.MANY, 2);
            Bench.dueFault(".space 4092\nlw $1,x" + behind, Bench.MANY, 2);
            Bench.dueFault(full + "beq $1,$2,x" + behind, Bench.MANY, 2);
            Bench.dueFault(full + ".word 1" + behind, Bench.MANY, 2);
            Bench.dueFault(full + ".half 1" + behind, Bench.MANY, 2);
            Bench.dueFault(full + ".byte 1" + behind, Bench.MANY, 2);
            Bench.dueFault(".space 4095\n.byte 1,2" + behind, Bench.MANY, 2);
            Bench.dueFault(full + ".space 1" + behind, Bench.MANY, 2);
            Bench.dueFault(full + ".ascii \"a\"" + behind, Bench.MANY, 2);
            Bench.dueFault(full + ".asciiz \"\"" + behind, Bench.MANY, 2);
        }
        Bench.dueFault(full + "nop @", Bench.MANY, 2);
        Bench.dueFault(full + "nop 5", Bench.MANY, 2);
        Bench.dueFault(full + "x: nop", Bench.MANY, 2);
        for (String line : new String[] {"syscall", "break 5 @", "syscall 5,6", "jalr $1 @",
            "jalr $1 $2,$3", "jalr $1,$2,$3", "div $1,$2 @", "divu $1,$2 $3,$4",
            "div $1,$2,$3,$4"}) {
            Bench.dueFault(full + line, Bench.MANY, 2);
        }
        Bench.dueFault(".space 4092\nrem $1,$2,$3 @", Bench.MANY, 2);
    }

    private static void sixtyFourSymbols() {
        Bench.about("more than .. 64 symbols");
        Bench bench = Bench.made(labels(64) + "j s0\n.globl s63\nla $1,s5\n.word s63");
        Bench.due("symbols", bench.forge.count(2, 0), 64);
        bench.dueSymbol(0, 63, "s63", 0, 0, 1);
        Bench.dueIndex("symbol 64", () -> bench.forge.symbol(0, 64, 0));
        String[] by = {"x:", ".globl x", ".globl s0,x", ".word x", ".word s0,x", "j x", "jal x+4",
            "b x", "beq $1,$2,x", "bc1t 3,x", "blt $1,$2,x", "la $1,x", "lw $1,x", "sdc1 $f1,x-4",
            "lui $1,%hi(x)", "ori $1,$2,%lo(x)", "addiu $1,$2,%lo(x)", "lw $1,%lo(x)($2)"};
        for (String line : by) {
            Bench last = Bench.made(labels(63) + line);
            Bench.due("64 by " + line, last.forge.count(2, 0), 64);
            Bench.dueFault(labels(64) + line, Bench.MANY, 2);
            Bench.dueFault(labels(63) + "y: " + line, Bench.MANY, 2);
        }
        // At the line by which: the names that are there already do no harm.
        Bench.dueFault(labels(64) + "s5x:\n@", Bench.MANY, 2);
        Bench.dueFault(labels(64) + "j s1\n.globl s1\nj s1x\n", Bench.MANY, 4);
    }

    private static void manySymbolsBehindOperands() {
        Bench.about("7 MANY (when it comes, behind the operands that it comes of (symbols)");
        String full = labels(64);
        Bench.dueFault(full + "beq @,$2,x", Bench.BYTE, 2);
        Bench.dueFault(full + "beq $1,x", Bench.OPERANDS, 2);
        Bench.dueFault(full + "bc1t 8,x", Bench.RANGE, 2);
        Bench.dueFault(full + ".word x+@", Bench.BYTE, 2);
        Bench.dueFault(full + ".word x+4294967296", Bench.BYTE, 2);
        Bench.dueFault(full + ".word 1,@,x", Bench.BYTE, 2);
        Bench.dueFault(full + "la $f1,x", Bench.OPERANDS, 2);
        Bench.dueFault(full + ".globl s0 x", Bench.OPERANDS, 2);
        Bench.dueFault(full + ".globl s0,5,x", Bench.OPERANDS, 2);
        Bench.dueFault(full + "@ x:", Bench.BYTE, 2);
        Bench.dueFault(full + "foo x", Bench.OPERATION, 2);
    }

    private static void manySymbolsAheadOfTheRest() {
        Bench.about("ahead of what stands behind them) (symbols)");
        String full = labels(64);
        for (String behind : new String[] {"", " @", " $1", ",@", " \"abc"}) {
            Bench.dueFault(full + "x: " + behind, Bench.MANY, 2);
            Bench.dueFault(full + ".globl x" + behind, Bench.MANY, 2);
            Bench.dueFault(full + ".globl s1,x" + behind, Bench.MANY, 2);
            Bench.dueFault(full + ".word x" + behind, Bench.MANY, 2);
            Bench.dueFault(full + ".word s1,x+4" + behind, Bench.MANY, 2);
            Bench.dueFault(full + "j x" + behind, Bench.MANY, 2);
            Bench.dueFault(full + "la $1,x-4" + behind, Bench.MANY, 2);
            Bench.dueFault(full + "beq $1,$2,x" + behind, Bench.MANY, 2);
        }
        Bench.dueFault(full + "x: foo", Bench.MANY, 2);
        Bench.dueFault(full + "x: s0:", Bench.MANY, 2);
        Bench.dueFault(".byte 1\n" + full + "x: nop", Bench.MANY, 3);
    }

    private static void relocationLimit() {
        Bench.about("more than .. 256 relocations (at the line by which");
        Bench bench = Bench.made(relocations(256));
        Bench.due("relocations", bench.forge.count(3, 0), 256);
        bench.dueRelocation(0, 255, 0, 1020, 2, 0, 0);
        Bench.dueIndex("relocation 256", () -> bench.forge.relocation(0, 256, 0));
        Bench.dueFault(relocations(257), Bench.MANY, 1);
        String[] by = {".word s0", "j s0", "jal s0+4", "b s0", "beqz $1,u", "bgtu $1,$2,u",
            "lui $1,%hi(s0)", "addiu $1,$2,%lo(s0)", "lw $1,%lo(s0)($2)"};
        for (String line : by) {
            Bench last = Bench.made(relocations(255) + line);
            Bench.due("256 by " + line, last.forge.count(3, 0), 256);
            Bench.dueFault(relocations(256) + line, Bench.MANY, 2);
            Bench.dueFault(relocations(255) + "j s0\n" + line, Bench.MANY, 3);
        }
        // What bears no name has none.
        Bench.made(relocations(256) + ".word 5,-5\nnop\nli $1,70000\nlui $1,%hi(70000)\n"
                + "lw $1,%lo(5)($2)\njalr $1\ndiv $1,$2,$3\nu: .globl u,v");
    }

    private static void allBranchesCount() {
        Bench.about("all branches count as relocations for this, as they come");
        Bench bench = Bench.made("x:" + times("b x\n", 256) + "nop");
        Bench.due("none is left", bench.forge.count(3, 0), 0);
        Bench.dueFault("x:" + times("b x\n", 257), Bench.MANY, 257);
        Bench.dueFault("x:" + times("b x\n", 256) + "j x", Bench.MANY, 257);
        Bench.dueFault("x:" + times("b x\n", 256) + ".word x", Bench.MANY, 257);
        Bench.dueFault(times("b x\n", 256) + "blt $1,$2,x\nx:", Bench.MANY, 257);
        Bench.dueFault("x: b x\n" + relocations(255).replace("s0", "y") + "j x", Bench.MANY, 3);
        Bench mixed = Bench.made("x:" + times("b x\n", 100) + times("bal y\n", 100)
                + times("j x\n", 56));
        Bench.due("the others are left", mixed.forge.count(3, 0), 156);
        mixed.dueRelocation(0, 0, 0, 400, 10, 1, 0);
        mixed.dueRelocation(0, 99, 0, 796, 10, 1, 0);
        mixed.dueRelocation(0, 100, 0, 800, 4, 0, 0);
        mixed.dueRelocation(0, 155, 0, 1020, 4, 0, 0);
    }

    private static void twoRelocationsOfALine() {
        Bench.about("256 relocations (of two words the HIGH first)");
        for (String line : new String[] {"la $1,s0", "lw $1,s0", "sdc1 $f1,s0+8"}) {
            Bench last = Bench.made(relocations(254) + line);
            Bench.due("256 by " + line, last.forge.count(3, 0), 256);
            last.dueRelocation(0, 254, 0, 1016, 5, 0, line.endsWith("8") ? 8 : 0);
            last.dueRelocation(0, 255, 0, 1020, 6, 0, line.endsWith("8") ? 8 : 0);
            Bench.dueFault(relocations(255) + line, Bench.MANY, 2);
            Bench.dueFault(relocations(256) + line, Bench.MANY, 2);
        }
    }

    private static void manyRelocationsAheadOfTheRest() {
        Bench.about("7 MANY .. behind the operands .. ahead of what stands behind (relocations)");
        String full = relocations(256);
        for (String behind : new String[] {"", " @", " $1", ",@"}) {
            Bench.dueFault(full + ".word s0" + behind, Bench.MANY, 2);
            Bench.dueFault(full + ".word 1,s0" + behind, Bench.MANY, 2);
            Bench.dueFault(full + "j s0" + behind, Bench.MANY, 2);
            Bench.dueFault(full + "la $1,s0" + behind, Bench.MANY, 2);
            Bench.dueFault(full + "bne $1,$2,s0" + behind, Bench.MANY, 2);
        }
        Bench.dueFault(full + ".word 1,@,s0", Bench.BYTE, 2);
        Bench.dueFault(full + "bne $1,@,s0", Bench.BYTE, 2);
        Bench.dueFault(full + "la $1,s0+", Bench.OPERANDS, 2);
    }

    private static void branchesBehindAllLines() {
        Bench.about("Behind all lines: 4 of branches to symbols of the same text");
        String[] later = {"", "@", "foo", ".byte", ".byte 256", "a:", ".data\nnop",
            ".space 4095"};
        for (int fault = 1; fault <= 7; fault++) {
            Bench.dueFault("a: b a+2\n" + later[fault], fault, fault == Bench.PLACE ? 3 : 2);
        }
        Bench.dueFault("a: b a+2 @", Bench.BYTE, 1);
        Bench.dueFault("a: b a+2,", Bench.OPERANDS, 1);
        Bench.dueFault("a: b a+2\nnop\n\n", Bench.RANGE, 1);
        Bench.dueFault("b z+2\nnop\nz:", Bench.RANGE, 1);
        Bench.dueFault("nop\nb z+131076\nz:", Bench.RANGE, 2);
    }

    private static void branchesByLines() {
        Bench.about("by lines");
        Bench.dueFault("a: nop\nb a\nb a+1\nb a+2\nb a", Bench.RANGE, 3);
        Bench.dueFault("b z\nb z+200000\nb z+1\nz:", Bench.RANGE, 2);
        Bench.dueFault("j u\nla $1,u\nb u+1\n.data\n.word u\n.text\n\na: bgt $1,$2,a+3",
                Bench.RANGE, 8);
        Bench.dueFault(times("\n", 700) + "a: b a+1", Bench.RANGE, 701);
        // Those of other sections and other objects are the linker's.
        Bench.made("b u+1\nb d+1\nb z+1\n.data\nd:\n.bss\nz:");
    }

    private static void textUsedUp() {
        Bench.about("The text (used up, whatever comes) becomes an object: its number");
        Bench bench = new Bench();
        Bench.due("of no text", bench.make(""), 0);
        Bench.due("a fault", bench.make("jr @"), ObjectForge.NONE);
        Bench.due("used up by a fault", bench.forge.count(0, 0), 0);
        Bench.due("of no text again", bench.forge.assemble(), 1);
        Bench.due("no fault", bench.forge.fault(0), 0);
        Bench.due("an object", bench.make("jr $1"), 2);
        Bench.due("used up by an object", bench.forge.count(0, 0), 0);
        Bench.due("of no text once more", bench.forge.assemble(), 3);
        Bench.due("its bytes", bench.forge.size(3, 0), 0);
    }

    private static void eightObjects() {
        Bench.about("IllegalStateException: there are 8.");
        Bench bench = new Bench();
        for (int i = 0; i < 8; i++) {
            Bench.due("a fault takes no number", bench.make("\n@"), ObjectForge.NONE);
            Bench.due("object", bench.make("x" + i + ":"), i);
        }
        bench.feed("nop");
        Bench.dueState("a ninth", () -> bench.forge.assemble());
        Bench.due("its text is used up", bench.forge.count(0, 0), 0);
        Bench.due("objects", bench.forge.count(1, 0), 8);
        Bench.dueState("a ninth of no text", () -> bench.forge.assemble());
        bench.feed("\n\n@");
        Bench.dueState("a ninth with a fault", () -> bench.forge.assemble());
        Bench.due("the fault is the former one's", bench.forge.fault(0), 0);
        Bench.due("and its line", bench.forge.fault(1), 0);
        for (int i = 0; i < 8; i++) {
            bench.dueSymbol(i, 0, "x" + i, 0, 0, 0);
        }
        Bench.due("clear", bench.forge.clear(), 8);
        Bench.due("room again", bench.make("y:"), 0);
    }
}
