/** Promise 4: operands of INSTRUCTIONS, and what is WRITTEN OUT. */
public final class InstructionTest {
    public static void main(String[] args) {
        bounds();
        halves();
        memory();
        optional();
        oneForOne();
        loads();
        addresses();
        comparisons();
        divisions();
        wrongOperands();
        Bench.close("InstructionTest");
    }

    private static void fault(String line, int fault) {
        Bench.dueFault("\n\n" + line, fault, 3);
    }

    private static void bounds() {
        Bench.dueWords("sll $1,$2,0\nsll $1,$2,31", 0x00020800, 0x00020FC0);
        fault("sll $1,$2,32", Bench.RANGE);
        fault("sll $1,$2,-1", Bench.RANGE);
        Bench.dueWords("addiu $1,$2,32767\naddiu $1,$2,-32768", 0x24417FFF, 0x24418000);
        fault("addiu $1,$2,32768", Bench.RANGE);
        fault("addiu $1,$2,-32769", Bench.RANGE);
        fault("addiu $1,$2,0xFFFFFFFF", Bench.RANGE);
        Bench.dueWords("ori $1,$2,0\nori $1,$2,65535", 0x34410000, 0x3441FFFF);
        fault("ori $1,$2,65536", Bench.RANGE);
        fault("ori $1,$2,-1", Bench.RANGE);
        fault("lui $1,65536", Bench.RANGE);
        fault("lw $1,32768($2)", Bench.RANGE);
        fault("lw $1,-32769($2)", Bench.RANGE);
        fault("lw $1,32768", Bench.RANGE);
        fault("syscall 1048576", Bench.RANGE);
        fault("break -1", Bench.RANGE);
        fault("bc1t 8,x", Bench.RANGE);
        fault("bc1t -1,x", Bench.RANGE);
        fault("c.eq.d 8,$f1,$f2", Bench.RANGE);
    }

    private static void halves() {
        Bench.dueWords("lui $1,%hi(0x12347FFF)\nlui $1,%hi(0x12348000)\nlui $1,%hi(0xFFFF8000)",
                0x3C011234, 0x3C011235, 0x3C010000);
        Bench.dueWords("addiu $1,$2,%lo(0x12348000)\nori $1,$2,%lo(-1)\nlui $1,%lo(5)",
                0x24418000, 0x3441FFFF, 0x3C010005);
        Bench.dueWords("lw $1,%lo(0x10004)($2)\nlui $1,%hi(-32769)", 0x8C410004, 0x3C01FFFF);
        Bench bench = Bench.dueWords("lui $1,%hi(x-4)\nori $1,$2,%lo(y)\nlw $1,%lo(x)($2)",
                0x3C010000, 0x34410000, 0x8C410000);
        bench.dueRelocation(0, 0, 0, 0, 5, 0, -4);
        bench.dueRelocation(0, 1, 0, 4, 6, 1, 0);
        bench.dueRelocation(0, 2, 0, 8, 6, 0, 0);
        fault("addiu $1,$2,%hi(x)", Bench.OPERANDS);
        fault("lw $1,%hi(x)($2)", Bench.OPERANDS);
        fault("lui $1,%HI(x)", Bench.OPERANDS);
        fault("lui $1,%x(x)", Bench.OPERANDS);
        fault("lui $1,%5", Bench.OPERANDS);
        fault("lui $1,%@", Bench.BYTE);
        fault("lui $1,%hi", Bench.OPERANDS);
        fault("lui $1,%hi x", Bench.OPERANDS);
        fault("lui $1,%hi(x", Bench.OPERANDS);
        fault("lui $1,%hi()", Bench.OPERANDS);
        fault("lui $1,%hi(-x)", Bench.BYTE);
        fault("lui $1,%hi(%hi(x))", Bench.OPERANDS);
        fault("lui $1,-%hi(x)", Bench.BYTE);
        fault("li $1,%lo(5)", Bench.OPERANDS);
        fault("sll $1,$2,%lo(5)", Bench.OPERANDS);
    }

    private static void memory() {
        Bench.dueWords("lw $1,($2)\nlw $1,0x10($2)\nlw $1,'a'($2)", 0x8C410000, 0x8C410010, 0x8C410061);
        // Nothing of the line ahead is left.
        Bench.dueWords("addiu $1,$2,5\nlw $1,($2)\nlui $1,%hi(0x90000)\nlw $1,($2)",
                0x24410005, 0x8C410000, 0x3C010009, 0x8C410000);
        fault("lw $1,4", Bench.OPERANDS);
        fault("lw $1,4(", Bench.OPERANDS);
        fault("lw $1,4($2", Bench.OPERANDS);
        fault("lw $1,4(4)", Bench.OPERANDS);
        fault("lw $1,4($f2)", Bench.OPERANDS);
        fault("lw $1,4($32)", Bench.BYTE);
        fault("lw $1,%lo(x)", Bench.OPERANDS);
        fault("lw $1,x($2)", Bench.OPERANDS);
        fault("lw $1,x+4($2)", Bench.OPERANDS);
        fault("lw $1,$2", Bench.OPERANDS);
        fault("lw $1,", Bench.OPERANDS);
        fault("lwc1 $1,4($2)", Bench.OPERANDS);
        fault("lw $f1,4($2)", Bench.OPERANDS);
    }

    private static void optional() {
        Bench.dueWords("syscall\nbreak\nsyscall 1\nbreak 0", 0x0000000C, 0x0000000D, 0x0000004C,
                0x0000000D);
        Bench.dueWords("x: bc1t 0,x\nbc1t 7,x", 0x4501FFFF, 0x451DFFFE);
        Bench.dueWords("c.lt.s 0,$f1,$f2\nc.lt.s 7,$f1,$f2", 0x4602083C, 0x46020F3C);
        fault("syscall x", Bench.OPERANDS);
        fault("syscall $1", Bench.OPERANDS);
        fault("syscall 1,", Bench.OPERANDS);
        fault("bc1t 1", Bench.OPERANDS);
        fault("bc1t 1 x", Bench.OPERANDS);
        fault("bc1t 1,2", Bench.OPERANDS);
        fault("bc1t $1,x", Bench.OPERANDS);
        fault("bc1t", Bench.OPERANDS);
        fault("c.eq.s 1,$f1", Bench.OPERANDS);
        fault("c.eq.s $f1,1,$f2", Bench.OPERANDS);
    }

    private static void oneForOne() {
        Bench.dueWords("move $3,$4\nnot $3,$4\nneg $3,$4\njalr $4", 0x00801821, 0x00801827,
                0x00041823, 0x0080F809);
        Bench.dueWords("x: b x\nbal x\nbeqz $4,x\nbnez $4,x", 0x1000FFFF, 0x0411FFFE, 0x1080FFFD,
                0x1480FFFC);
        fault("jalr", Bench.OPERANDS);
        fault("jalr $1,", Bench.OPERANDS);
        fault("jalr $1,$2,$3", Bench.OPERANDS);
        fault("jalr $1 $2", Bench.OPERANDS);
        fault("jalr $1,@", Bench.BYTE);
        fault("move $1", Bench.OPERANDS);
        fault("b $1", Bench.OPERANDS);
        fault("b 4", Bench.OPERANDS);
    }

    private static void loads() {
        Bench.dueWords("li $4,0\nli $4,32767\nli $4,-32768\nli $4,0xFFFF8000\nli $4,0xFFFFFFFF",
                0x24040000, 0x24047FFF, 0x24048000, 0x24048000, 0x2404FFFF);
        Bench.dueWords("li $4,32768\nli $4,65535\nli $4,'a'", 0x34048000, 0x3404FFFF, 0x24040061);
        Bench.dueWords("li $4,65536\nli $4,-65536\nli $4,0x80000000\nli $4,-2147483648",
                0x3C040001, 0x3C04FFFF, 0x3C048000, 0x3C048000);
        Bench.dueWords("li $4,-32769\nli $31,65537", 0x3C04FFFF, 0x34847FFF, 0x3C1F0001, 0x37FF0001);
        fault("li $4,x", Bench.OPERANDS);
        fault("li $4", Bench.OPERANDS);
        fault("li $f4,5", Bench.OPERANDS);
        fault("li $4,4294967296", Bench.BYTE);
    }

    private static void addresses() {
        Bench bench = Bench.dueWords("la $4,x+8\nlw $5,y - 4\nsdc1 $f6,x\n.data\nx:",
                0x3C040000, 0x24840000, 0x3C010000, 0x8C250000, 0x3C010000, 0xF4260000);
        Bench.due("relocations", bench.forge.count(3, 0), 6);
        bench.dueRelocation(0, 0, 0, 0, 5, 0, 8);
        bench.dueRelocation(0, 1, 0, 4, 6, 0, 8);
        bench.dueRelocation(0, 2, 0, 8, 5, 1, -4);
        bench.dueRelocation(0, 3, 0, 12, 6, 1, -4);
        bench.dueRelocation(0, 4, 0, 16, 5, 0, 0);
        bench.dueRelocation(0, 5, 0, 20, 6, 0, 0);
        Bench.dueWords("x: la $31,x", 0x3C1F0000, 0x27FF0000);
        fault("la $4,5", Bench.OPERANDS);
        fault("la $4,%hi(x)", Bench.OPERANDS);
        fault("la $4,($5)", Bench.OPERANDS);
    }

    private static void comparisons() {
        Bench.dueWords("x: blt $4,$5,x\nbge $4,$5,x\nbgt $4,$5,x\nble $4,$5,x",
                0x0085082A, 0x1420FFFE, 0x0085082A, 0x1020FFFC,
                0x00A4082A, 0x1420FFFA, 0x00A4082A, 0x1020FFF8);
        Bench.dueWords("x: bltu $4,$5,x\nbgeu $4,$5,x\nbgtu $4,$5,x\nbleu $4,$5,x",
                0x0085082B, 0x1420FFFE, 0x0085082B, 0x1020FFFC,
                0x00A4082B, 0x1420FFFA, 0x00A4082B, 0x1020FFF8);
        Bench bench = Bench.dueWords("bgt $4,$5,y+4", 0x00A4082A, 0x14200000);
        Bench.due("relocations", bench.forge.count(3, 0), 1);
        bench.dueRelocation(0, 0, 0, 4, 10, 0, 4);
    }

    private static void divisions() {
        Bench.dueWords("div $4,$5\ndivu $4,$5", 0x0085001A, 0x0085001B);
        Bench.dueWords("div $3,$4,$5\ndivu $3,$4,$5\nrem $3,$4,$5\nremu $3,$4,$5",
                0x0085001A, 0x00001812, 0x0085001B, 0x00001812,
                0x0085001A, 0x00001810, 0x0085001B, 0x00001810);
        fault("div $1", Bench.OPERANDS);
        fault("div $1,$2,", Bench.OPERANDS);
        fault("div $1,$2,@", Bench.BYTE);
        fault("div $1,$2,$3,$4", Bench.OPERANDS);
        fault("divu $1,$2 $3", Bench.OPERANDS);
        fault("rem $1,$2", Bench.OPERANDS);
    }

    private static void wrongOperands() {
        fault("add", Bench.OPERANDS);
        fault("add $1", Bench.OPERANDS);
        fault("add $1,", Bench.OPERANDS);
        fault("add $1 $2,$3", Bench.OPERANDS);
        fault("add $1,$2", Bench.OPERANDS);
        fault("add $1,$2,3", Bench.OPERANDS);
        fault("add $1,$2,$3,", Bench.OPERANDS);
        fault("add $1,$2,$3 $4", Bench.OPERANDS);
        fault("add ,$2,$3", Bench.OPERANDS);
        fault("add $1,$2 @", Bench.BYTE);
        fault("add.s $f1,$2,$3", Bench.OPERANDS);
        fault("add.w $f1,$f2,$f3", Bench.OPERATION);
        fault("c.x.s $f1,$f2", Bench.OPERATION);
        fault("addiu $1,$2,x", Bench.OPERANDS);
        fault("addiu $1,$2,$3", Bench.OPERANDS);
        fault("j 4", Bench.OPERANDS);
        fault("beq $1,x", Bench.OPERANDS);
        fault("mfc1 $f1,$1", Bench.OPERANDS);
        fault("nop 1", Bench.OPERANDS);
    }
}
