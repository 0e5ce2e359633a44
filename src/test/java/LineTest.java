/** Promise 4: TEXT, NAMES, REGISTERS, FRACTIONS, NUMBERS, STRINGS, EXPRESSIONS, A LINE. */
public final class LineTest {
    private static final String LONGEST = "a23456789_1234567.ABCDEF";

    public static void main(String[] args) {
        lines();
        names();
        registers();
        fractions();
        numbers();
        characters();
        strings();
        minus();
        expressions();
        Bench.close("LineTest");
    }

    private static void fault(String line, int fault) {
        Bench.dueFault("\n" + line + "\n", fault, 2);
    }

    private static void lines() {
        Bench.dueWords("", new int[0]);
        Bench.dueWords("\n\n \t\n", new int[0]);
        Bench.dueWords("nop", 0);
        Bench.dueWords("a:b :c: nop#x:\n#@\"'\n\td:\t# nop", 0);
        Bench.dueWords(" \tlw\t$4 , \t-4 ( $5 )\t# $6", 0x8CA4FFFC);
        Bench.dueWords("lw$4,-4($5)#", 0x8CA4FFFC);
        Bench.dueWords("lui $4,% hi ( 65536 )\nlui $4,%\thi(65536)", 0x3C040001, 0x3C040001);
        Bench.dueData(".data\n.byte '#' # '\n.ascii \"#\"#\"", 35, 35);
        fault("@", Bench.BYTE);
        fault("nop \r", Bench.BYTE);
        fault("\0", Bench.BYTE);
        fault("nop \u00ff", Bench.BYTE);
        fault("1: nop", Bench.OPERANDS);
        fault(": nop", Bench.OPERANDS);
        fault(", nop", Bench.OPERANDS);
        fault("$1", Bench.OPERANDS);
        fault("\"a\"", Bench.OPERANDS);
        fault("-5", Bench.OPERANDS);
        fault("a: 5", Bench.OPERANDS);
        fault("a b: nop", Bench.OPERATION);
        fault("nop nop", Bench.OPERANDS);
        fault("nop , :", Bench.OPERANDS);
        Bench.dueWords("nop : nop", 0);
    }

    private static void names() {
        Bench bench = Bench.made(LONGEST + ": ._9:A:z: .text: nop:\n");
        bench.dueSymbol(0, 0, LONGEST, 0, 0, 0);
        bench.dueSymbol(0, 1, "._9", 0, 0, 0);
        bench.dueSymbol(0, 2, "A", 0, 0, 0);
        bench.dueSymbol(0, 3, "z", 0, 0, 0);
        bench.dueSymbol(0, 4, ".text", 0, 0, 0);
        bench.dueSymbol(0, 5, "nop", 0, 0, 0);
        fault(LONGEST + "x:", Bench.BYTE);
        fault(LONGEST + "x", Bench.BYTE);
        fault("b " + LONGEST + "x", Bench.BYTE);
        fault(LONGEST, Bench.OPERATION);
        fault("NOP", Bench.OPERATION);
        fault(".TEXT", Bench.OPERATION);
        fault("a@:", Bench.OPERATION);
    }

    private static void registers() {
        String[] names = ("zero at v0 v1 a0 a1 a2 a3 t0 t1 t2 t3 t4 t5 t6 t7 "
                + "s0 s1 s2 s3 s4 s5 s6 s7 t8 t9 k0 k1 gp sp fp ra").split(" ");
        for (int i = 0; i < 32; i++) {
            Bench.dueWords("jr $" + names[i], 8 | i << 21);
            Bench.dueWords("jr $" + i, 8 | i << 21);
        }
        Bench.dueWords("jr $s8", 8 | 30 << 21);
        String[] none = {"$", "$ 1", "$32", "$00", "$01", "$031", "$100", "$zeroo", "$s9", "$t10",
            "$ZERO", "$1x", "$1.", "$2_", "$x", "$-1", "$a4", "$k2", "$v2", "$f", "$zer", "$_"};
        for (String text : none) {
            fault("jr " + text, Bench.BYTE);
            fault("nop " + text, Bench.BYTE);
        }
        fault("jr $f1", Bench.OPERANDS);
        fault("jr 1", Bench.OPERANDS);
        fault("jr ra", Bench.OPERANDS);
    }

    private static void fractions() {
        for (int i = 0; i < 32; i++) {
            Bench.dueWords("mov.s $f" + i + ",$f" + (31 - i), 0x46000006 | i << 6 | (31 - i) << 11);
        }
        for (String text : new String[] {"$f32", "$f00", "$f01", "$f1x", "$f1.", "$f-1", "$F1", "$f 1"}) {
            fault("mov.s $f1," + text, Bench.BYTE);
        }
        fault("mov.s $f1,$1", Bench.OPERANDS);
        fault("mov.s $fp,$f1", Bench.OPERANDS);
    }

    private static void numbers() {
        Bench.dueData(".data\n.word 0,007,4294967295,0xFFffFFff,0x0,-1\n",
                0, 0, 0, 0, 0, 0, 0, 7, 255, 255, 255, 255, 255, 255, 255, 255,
                0, 0, 0, 0, 255, 255, 255, 255);
        Bench.dueData(".data\n.word -2147483648,-0x80000000,0x00000000000000000001\n",
                128, 0, 0, 0, 128, 0, 0, 0, 0, 0, 0, 1);
        Bench.dueData(".data\n.word 0xabcdef,0xABCDEF,-0\n",
                0, 0xAB, 0xCD, 0xEF, 0, 0xAB, 0xCD, 0xEF, 0, 0, 0, 0);
        String[] none = {"4294967296", "0x100000000", "99999999999999999999999999", "0x", "0xg",
            "0X1", "12ab", "1a", "1f", "0x1.", "1_", "0x1g", "-2147483649", "-4294967295", "-0x80000001", "-", "-x",
            "-$1", "--1", "-\"a\""};
        for (String text : none) {
            fault(".word " + text, Bench.BYTE);
            fault("li $1," + text, Bench.BYTE);
            fault("syscall " + text, Bench.BYTE);
        }
        fault("nop 4294967296", Bench.BYTE);
        fault("nop 4294967295", Bench.OPERANDS);
    }

    private static void characters() {
        Bench.dueData(".data\n.byte 'a','\"','#',' ','\\n','\\t','\\0','\\\\','\\'','\\\"'\n",
                97, 34, 35, 32, 10, 9, 0, 92, 39, 34);
        Bench.dueData(".data\n.half -'a', '\u00ff'\n.byte '\u0080'\n", 255, 0x9F, 0, 255, 128);
        for (String text : new String[] {"'", "''", "'''", "'a", "'ab'", "'\\", "'\\n", "'\\'",
            "'\\x'", "'\\nn'", "'a\n'", "'\\\n'"}) {
            fault(".byte " + text, Bench.BYTE);
            fault("add " + text, Bench.BYTE);
        }
        fault("add 'a'", Bench.OPERANDS);
    }

    private static void strings() {
        Bench.dueData(".data\n.ascii \"\",\"a'# b\\n\\t\\0\\\\\\'\\\"\" , \"\u00e9\"\n",
                97, 39, 35, 32, 98, 10, 9, 0, 92, 39, 34, 0xE9);
        Bench.dueData(".data\n.asciiz \"\",\"ab\"\n", 0, 97, 98, 0);
        for (String text : new String[] {"\"", "\"abc", "\"\\\"", "\"\\a\"", "\"\\", "\"a\n\""}) {
            fault(".ascii " + text, Bench.BYTE);
            fault("nop " + text, Bench.BYTE);
        }
        fault(".ascii \"a\" \"b\"", Bench.OPERANDS);
        fault(".ascii 'a'", Bench.OPERANDS);
        fault(".ascii x", Bench.OPERANDS);
        fault("nop \"a\"", Bench.OPERANDS);
    }

    /** A - where no NUMBER can stand is something that can't stand there. */
    private static void minus() {
        for (String text : new String[] {"add $1,-$2,$3", "jr -1", "jr -", "la $1,-5", "b -x",
            "j -99999999999", "nop -", "nop -x", ".globl -x", ".ascii -\"a\"", "- nop",
            ".word x - -1", ".word x + -1", ".word 5 - 3", ".word 5 -", "lw $1,4-($2)"}) {
            fault(text, Bench.OPERANDS);
        }
    }

    private static void expressions() {
        Bench bench = Bench.made(".data\n.word x,x+1,x - 1, x +'a',x-0x10,x+4294967295\n"
                + ".word x-4294967295,x-2147483648\n");
        int[] addends = {0, 1, -1, 97, -16, -1, 1, 0x80000000};
        for (int i = 0; i < addends.length; i++) {
            bench.dueRelocation(0, i, 1, 4 * i, 2, 0, addends[i]);
        }
        fault(".word x+", Bench.OPERANDS);
        fault(".word x-", Bench.OPERANDS);
        fault(".word x+y", Bench.OPERANDS);
        fault(".word x+1+1", Bench.OPERANDS);
        fault(".word 1+x", Bench.OPERANDS);
        fault(".word +1", Bench.OPERANDS);
        fault(".word x+@", Bench.BYTE);
        fault(".word x+4294967296", Bench.BYTE);
        fault(".word x-'ab'", Bench.BYTE);
    }
}
