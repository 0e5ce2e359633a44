/** Promise 4, INSTRUCTIONS, WRITTEN OUT and RELOCATIONS: every operand's bounds and kinds. */
public final class OperandTest {
    private static final String COMPARISONS = comparisons();
    private static final String MEMORY = "lb lbu lh lhu lw lwl lwr sb sh sw swl swr ll sc";
    private static final String MEMORY_OF_FRACTIONS = "lwc1 swc1 ldc1 sdc1";

    /** Operands by the document's letters, and all names that have them. */
    private static final String[][] FORMS = {
        {"dst", "addu subu add sub and or xor nor slt sltu movz movn mul rem remu"},
        {"dth", "sll srl sra"},
        {"dts", "sllv srlv srav"},
        {"st", "mult multu div divu madd maddu msub msubu teq tne tge tgeu tlt tltu"},
        {"dst", "div divu"},
        {"d", "mfhi mflo"},
        {"s", "mthi mtlo jr jalr"},
        {"ds", "clz clo jalr move not neg"},
        {"tsi", "addiu addi slti sltiu"},
        {"tsu", "andi ori xori"},
        {"tu", "lui"},
        {"tm", MEMORY},
        {"Tm", MEMORY_OF_FRACTIONS},
        {"stL", "beq bne beql bnel blt bge bgt ble bltu bgeu bgtu bleu"},
        {"sL", "blez bgtz bltz bgez bltzal bgezal blezl bgtzl bltzl bgezl beqz bnez"},
        {"L", "b bal"},
        {"kL", "bc1f bc1t bc1fl bc1tl"},
        {"J", "j jal"},
        {"tS", "mfc1 mtc1"},
        {"", "nop sync syscall break"},
        {"c", "syscall break"},
        {"DST", "add.s add.d sub.s sub.d mul.s mul.d div.s div.d"},
        {"DS", "abs.s abs.d neg.s neg.d mov.s mov.d sqrt.s sqrt.d trunc.w.s trunc.w.d round.w.s "
            + "round.w.d ceil.w.s ceil.w.d floor.w.s floor.w.d cvt.w.s cvt.w.d cvt.s.d cvt.s.w "
            + "cvt.d.s cvt.d.w"},
        {"kST", COMPARISONS},
        {"tN", "li"},
        {"tJ", "la"},
    };

    public static void main(String[] args) {
        kindsOfOperands();
        missingOperands();
        operandsBehind();
        registerFields();
        memoryRegisters();
        registersOfTwoWords();
        namesAlone();
        shifts();
        codes();
        flags();
        flagsMissing();
        signedHalves();
        unsignedHalves();
        halvesOfExpressions();
        memoryNumbers();
        memoryWithoutNumber();
        memoryExpressions();
        memoryParts();
        namesOfBranches();
        onlyInText();
        multiplesOfFour();
        numberLoads();
        addressLoads();
        comparingBranches();
        divisions();
        oneForOne();
        branchWords();
        branchRests();
        branchesElsewhere();
        relocationsInOrder();
        Bench.close("OperandTest");
    }

    private static String comparisons() {
        StringBuilder all = new StringBuilder();
        for (String name : "f un eq ueq olt ult ole ule sf ngle seq ngl lt nge le ngt".split(" ")) {
            all.append("c.").append(name).append(".s c.").append(name).append(".d ");
        }
        return all.toString().trim();
    }

    private static void fault(String line, int fault) {
        Bench.dueFault("\n" + line + "\n", fault, 2);
    }

    private static int wordOf(String line) {
        return Bench.made(line).wordOf(0, 0, 0);
    }

    private static String sample(char letter) {
        switch (letter) {
            case 'd': return "$3";
            case 's': return "$4";
            case 't': return "$5";
            case 'D': return "$f3";
            case 'S': return "$f4";
            case 'T': return "$f5";
            case 'm': return "8($6)";
            case 'L': case 'J': return "x+4";
            default: return "6";
        }
    }

    /** What can't stand for an operand, whatever the operation. */
    private static String[] wrongKinds(char letter) {
        switch (letter) {
            case 'd': case 's': case 't':
                return new String[] {"$f1", "1", "x", "-1", "\"a\"", "($1)", "%lo(x)", "'a'"};
            case 'D': case 'S': case 'T':
                return new String[] {"$1", "$fp", "1", "x", "-1", "\"a\"", "($f1)", "%lo(x)"};
            case 'i':
                return new String[] {"$1", "$f1", "x", "x+1", "%hi(x)", "\"a\"", "(5)", "+5"};
            case 'u':
                return new String[] {"$1", "$f1", "x", "x+1", "\"a\"", "(5)", "+5"};
            case 'm':
                return new String[] {"$1", "4", "%lo(4)", "%hi(x)($1)", "x($1)", "4($f1)", "4(4)",
                    "4(x)", "\"a\"", "()", "4()", "($1)4", "+4($1)"};
            case 'L': case 'J':
                return new String[] {"4", "-4", "-x", "$1", "$f1", "%lo(x)", "\"a\"", "(x)", "+x",
                    "'a'"};
            default:
                return new String[] {"$1", "$f1", "x", "%lo(5)", "\"a\"", "(5)", "+5"};
        }
    }

    /** The operation with one operand exchanged. */
    private static String line(String name, String letters, int which, String other) {
        StringBuilder text = new StringBuilder(name);
        for (int i = 0; i < letters.length(); i++) {
            text.append(i == 0 ? " " : ",");
            text.append(i == which ? other : sample(letters.charAt(i)));
        }
        return text.toString();
    }

    private static void kindsOfOperands() {
        Bench.about("3 OPERANDS: something stands where it can't");
        for (String[] form : FORMS) {
            for (String name : form[1].split(" ")) {
                Bench.made(line(name, form[0], -1, ""));
                for (int i = 0; i < form[0].length(); i++) {
                    for (String wrong : wrongKinds(form[0].charAt(i))) {
                        fault(line(name, form[0], i, wrong), Bench.OPERANDS);
                    }
                    fault(line(name, form[0], i, "@"), Bench.BYTE);
                }
            }
        }
    }

    private static void missingOperands() {
        Bench.about("3 OPERANDS: .. or is missing");
        for (String[] form : FORMS) {
            for (String name : form[1].split(" ")) {
                for (int i = 0; i < form[0].length(); i++) {
                    // An optional operand alone may be missing, but not with its comma.
                    if (form[0].length() > 1) {
                        fault(line(name, form[0], i, ""), Bench.OPERANDS);
                    }
                }
                String whole = line(name, form[0], -1, "");
                int comma = whole.lastIndexOf(',');
                boolean shorter = name.equals("div") || name.equals("divu") || name.equals("jalr");
                if (comma >= 0 && !shorter) {
                    fault(whole.substring(0, comma), Bench.OPERANDS);
                }
            }
        }
        for (String name : new String[] {"add", "jr", "jalr", "div", "lui", "lw", "b", "bc1t", "j",
            "add.s", "c.eq.s", "li", "la", "beq", "mfhi", "clz", "blt", "rem"}) {
            fault(name, Bench.OPERANDS);
        }
        fault("div $1", Bench.OPERANDS);
        fault("divu $1", Bench.OPERANDS);
    }

    private static void operandsBehind() {
        Bench.about("3 OPERANDS: something stands where it can't (behind the last operand)");
        for (String[] form : FORMS) {
            for (String name : form[1].split(" ")) {
                String whole = line(name, form[0], -1, "");
                for (String more : new String[] {" $1", ",", " (", " \"a\"", " x", " %", ",6", ",x",
                    ",6($1)", ",$f1"}) {
                    fault(whole + more, Bench.OPERANDS);
                }
                if (!form[0].isEmpty()) {
                    fault(whole + " 6", Bench.OPERANDS);
                }
                fault(whole + " @", Bench.BYTE);
            }
        }
        for (String line : new String[] {"nop 1", "sync 1", "jr $1,$2", "jalr $1,$2,$3",
            "div $1,$2,$3,$4", "add $1,$2,$3,$4", "syscall 1,2", "bc1t 1,x,x", "j x,x",
            "c.eq.s 1,$f1,$f2,$f3", "li $1,2,3", "lw $1,2($3),4", "mfhi $1,$2", "b 1,x"}) {
            fault(line, Bench.OPERANDS);
        }
    }

    /** Where register 1 stands in the word; 0 if the operand is none. */
    private static int fieldOf(String name, char letter) {
        boolean counts = name.equals("clz") || name.equals("clo");
        switch (letter) {
            case 's': return name.equals("neg") ? 1 << 16 : 1 << 21;
            case 't': case 'T': return 1 << 16;
            case 'd': return counts ? 1 << 16 | 1 << 11 : 1 << 11;
            case 'S': return 1 << 11;
            case 'D': return 1 << 6;
            default: return 0;
        }
    }

    private static void registerFields() {
        Bench.about("d s t registers for the fields rd rs rt; D S T fractions for fd fs ft");
        for (String[] form : FORMS) {
            for (String name : form[1].split(" ")) {
                boolean two = Bench.made(line(name, form[0], -1, "")).forge.size(0, 0) == 8;
                boolean loads = name.equals("li") || name.equals("la");
                for (int i = 0; i < form[0].length() && !two && !loads; i++) {
                    int ones = fieldOf(name, form[0].charAt(i));
                    if (ones != 0) {
                        dueField(name, form[0], i, ones);
                    }
                }
            }
        }
    }

    private static void memoryRegisters() {
        Bench.about("m either i and (s): s for the field rs");
        for (String name : (MEMORY + " " + MEMORY_OF_FRACTIONS).split(" ")) {
            String start = name + (name.endsWith("c1") ? " $f0,8(" : " $0,8(");
            int base = wordOf(start + "$0)");
            Bench.due("fields of 0 of " + name, base & 0x03FFFFFF, 8);
            for (int r = 1; r < 32; r++) {
                Bench.dueWords(start + "$" + r + ")", base | r << 21);
            }
        }
    }

    /** Every register at a place of the operation is seen in a field (or two) of the word. */
    private static void dueField(String name, String form, int which, int ones) {
        String register = Character.isUpperCase(form.charAt(which)) ? "$f" : "$";
        int base = wordOf(line(name, form, which, register + 0));
        Bench.due("field of 0 of " + name, base & 31 * ones, 0);
        for (int r : new int[] {1, 2, 4, 8, 16, 31}) {
            int word = wordOf(line(name, form, which, register + r));
            Bench.due(name + " with " + register + r, word, base | r * ones);
        }
    }

    private static void registersOfTwoWords() {
        Bench.about("d s t registers for the fields rd rs rt (of two words)");
        for (int r : new int[] {0, 1, 2, 4, 8, 16, 31}) {
            int s = r << 21;
            int t = r << 16;
            int d = r << 11;
            Bench.dueWords("li $" + r + ",0x12345678", 0x3C001234 | t, 0x34005678 | s | t);
            Bench.dueWords("li $" + r + ",5\nli $" + r + ",65535\nli $" + r + ",65536",
                    0x24000005 | t, 0x3400FFFF | t, 0x3C000001 | t);
            Bench.dueWords("la $" + r + ",x", 0x3C000000 | t, 0x24000000 | s | t);
            Bench.dueWords("lw $" + r + ",x", 0x3C010000, 0x8C200000 | t);
            Bench.dueWords("swc1 $f" + r + ",x", 0x3C010000, 0xE4200000 | t);
            Bench.dueWords("div $" + r + ",$0,$0", 0x0000001A, 0x00000012 | d);
            Bench.dueWords("divu $0,$" + r + ",$0", 0x0000001B | s, 0x00000012);
            Bench.dueWords("rem $0,$0,$" + r, 0x0000001A | t, 0x00000010);
            Bench.dueWords("remu $" + r + ",$0,$0", 0x0000001B, 0x00000010 | d);
            Bench.dueWords("blt $" + r + ",$0,x\nbge $0,$" + r + ",x",
                    0x0000082A | s, 0x14200000, 0x0000082A | t, 0x10200000);
            Bench.dueWords("bgt $" + r + ",$0,x\nble $0,$" + r + ",x",
                    0x0000082A | t, 0x14200000, 0x0000082A | s, 0x10200000);
            Bench.dueWords("bltu $" + r + ",$0,x\nbgeu $0,$" + r + ",x",
                    0x0000082B | s, 0x14200000, 0x0000082B | t, 0x10200000);
            Bench.dueWords("bgtu $" + r + ",$0,x\nbleu $0,$" + r + ",x",
                    0x0000082B | t, 0x14200000, 0x0000082B | s, 0x10200000);
        }
    }

    private static void namesAlone() {
        Bench.about("2 OPERATION: there is none such");
        for (String[] form : FORMS) {
            for (String name : form[1].split(" ")) {
                fault(line(name + "x", form[0], -1, ""), Bench.OPERATION);
                fault(line(name.toUpperCase(), form[0], -1, ""), Bench.OPERATION);
            }
        }
        for (String name : new String[] {"subi", "subiu", "abs", "mulo", "cvt.s", "cvt.w.w",
            "cvt.s.s", "trunc.s", "c.eq", "c.eq.w", "c.xx.s", "add.w", "sqrt", "nopp", "no", "l",
            "bltz.", "lwu", "bc1", "bc2t", "ror", "seb", "ext", ".long", ".text.", ".glob", ".",
            ".asci", "a", "_", "jalr.hb", "ld", "sd", "dadd", "movf", "pref", "cache", "eret"}) {
            fault(name + " $1", Bench.OPERATION);
        }
    }

    private static void shifts() {
        Bench.about("h 0 .. 31");
        for (String name : new String[] {"sll", "srl", "sra"}) {
            int base = wordOf(name + " $3,$4,0");
            for (int h = 0; h < 32; h++) {
                Bench.dueWords(name + " $3,$4," + h, base | h << 6);
            }
            fault(name + " $3,$4,32", Bench.RANGE);
            fault(name + " $3,$4,-1", Bench.RANGE);
            fault(name + " $3,$4,63", Bench.RANGE);
        }
    }

    private static void codes() {
        Bench.about("None, or c (0 without): c 0 .. 2^20 - 1");
        int[] bases = {0x0000000C, 0x0000000D};
        String[] names = {"syscall", "break"};
        for (int i = 0; i < 2; i++) {
            Bench.dueWords(names[i], bases[i]);
            Bench.dueWords(names[i] + " 0", bases[i]);
            Bench.dueWords(names[i] + " 1", bases[i] | 1 << 6);
            Bench.dueWords(names[i] + " 1048575", bases[i] | 0xFFFFF << 6);
            fault(names[i] + " 1048576", Bench.RANGE);
            fault(names[i] + " -1", Bench.RANGE);
        }
    }

    private static void flags() {
        Bench.about("k 0 .. 7");
        for (String name : COMPARISONS.split(" ")) {
            int base = wordOf(name + " 0,$f4,$f5");
            for (int k = 0; k < 8; k++) {
                Bench.dueWords(name + " " + k + ",$f4,$f5", base | k << 8);
            }
            fault(name + " 8,$f4,$f5", Bench.RANGE);
            fault(name + " -1,$f4,$f5", Bench.RANGE);
        }
        for (String name : new String[] {"bc1f", "bc1t", "bc1fl", "bc1tl"}) {
            int base = wordOf(name + " 0,x");
            for (int k = 0; k < 8; k++) {
                Bench.dueWords(name + " " + k + ",x", base | k << 18);
            }
            fault(name + " 8,x", Bench.RANGE);
            fault(name + " -1,x", Bench.RANGE);
        }
    }

    private static void flagsMissing() {
        Bench.about("or k,S,T (0 without) .. or k,L (0 without)");
        for (String name : COMPARISONS.split(" ")) {
            Bench.dueWords(name + " $f4,$f5", wordOf(name + " 0,$f4,$f5"));
            for (String wrong : new String[] {"$f4", "$f4,", ",$f4,$f5", "$4,$f5", "$f4,$5",
                "$f4,x", "x,$f5", "$f4,1,$f5", "$f4,$f5,1", "1", "1,$f4", "1 $f4,$f5"}) {
                fault(name + " " + wrong, Bench.OPERANDS);
            }
        }
        for (String name : new String[] {"bc1f", "bc1t", "bc1fl", "bc1tl"}) {
            Bench.dueWords(name + " x", wordOf(name + " 0,x"));
            for (String wrong : new String[] {",x", "$1", "x,1", "x,x", "(x)", "1", "1,", "1 x",
                "1,1", "1,1,x", "\"x\"", "%lo(x)"}) {
                fault(name + " " + wrong, Bench.OPERANDS);
            }
        }
    }

    private static void signedHalves() {
        Bench.about("i a NUMBER -32768 .. 32767 or %lo(EXPRESSION)");
        for (String name : new String[] {"addiu", "addi", "slti", "sltiu"}) {
            int base = wordOf(name + " $3,$4,0");
            Bench.due("field of 0", base & 0xFFFF, 0);
            Bench.dueWords(name + " $3,$4,32767", base | 0x7FFF);
            Bench.dueWords(name + " $3,$4,-32768", base | 0x8000);
            Bench.dueWords(name + " $3,$4,-1", base | 0xFFFF);
            fault(name + " $3,$4,32768", Bench.RANGE);
            fault(name + " $3,$4,-32769", Bench.RANGE);
            fault(name + " $3,$4,65535", Bench.RANGE);
            fault(name + " $3,$4,%hi(5)", Bench.OPERANDS);
            Bench.dueWords(name + " $3,$4,%lo(0x12348765)", base | 0x8765);
            Bench bench = Bench.dueWords(name + " $3,$4,%lo(x-3)", base);
            bench.dueRelocation(0, 0, 0, 0, 6, 0, -3);
        }
    }

    private static void unsignedHalves() {
        Bench.about("u a NUMBER 0 .. 65535, or %hi(EXPRESSION) or %lo(EXPRESSION)");
        for (String name : new String[] {"andi $3,$4,", "ori $3,$4,", "xori $3,$4,", "lui $3,"}) {
            int base = wordOf(name + "0");
            Bench.due("field of 0", base & 0xFFFF, 0);
            Bench.dueWords(name + "65535", base | 0xFFFF);
            Bench.dueWords(name + "32768", base | 0x8000);
            fault(name + "65536", Bench.RANGE);
            fault(name + "-1", Bench.RANGE);
            fault(name + "-32768", Bench.RANGE);
            Bench.dueWords(name + "%hi(0x12348765)", base | 0x1235);
            Bench.dueWords(name + "%lo(0x12348765)", base | 0x8765);
            Bench bench = Bench.dueWords(name + "%hi(x+3)", base);
            bench.dueRelocation(0, 0, 0, 0, 5, 0, 3);
            bench = Bench.dueWords(name + "%lo(x)", base);
            bench.dueRelocation(0, 0, 0, 0, 6, 0, 0);
        }
    }

    private static void halvesOfExpressions() {
        Bench.about("%hi(EXPRESSION) or %lo(EXPRESSION) (blanks may stand behind %, too)");
        Bench.dueWords("lui $3,% hi(0x12340000)", 0x3C031234);
        Bench.dueWords("lui $3,%\t lo ( 5\t) ", 0x3C030005);
        Bench.dueWords("lui $3,%hi(0x00007FFF)\nlui $3,%hi(0x00008000)\nlui $3,%hi(0xFFFF7FFF)\n"
                + "lui $3,%hi(0xFFFF8000)\nlui $3,%hi(-1)\nlui $3,%hi(-2147483648)",
                0x3C030000, 0x3C030001, 0x3C03FFFF, 0x3C030000, 0x3C030000, 0x3C038000);
        for (String wrong : new String[] {"%", "%hi", "%hi(", "%hi()", "%hi(5", "%hi 5", "%hi)5(",
            "%5", "%x(5)", "%HI(5)", "%hix(5)", "%h(5)", "%(5)", "%%hi(5)", "%hi(%hi(5))",
            "%hi(5))", "%hi((5))", "%hi(5)+1", "hi(5)", "%hi($5)", "%hi(5,6)", "%$1"}) {
            fault("lui $3," + wrong, Bench.OPERANDS);
        }
        fault("lui $3,%@", Bench.BYTE);
        fault("lui $3,%hi(@)", Bench.BYTE);
        fault("lui $3,%hi(4294967296)", Bench.BYTE);
        fault("lui $3,%hi(5@", Bench.BYTE);
        fault("lui $3,%hi@", Bench.BYTE);
    }

    private static void memoryNumbers() {
        Bench.about("m either i and (s)");
        String[] names = (MEMORY + " " + MEMORY_OF_FRACTIONS).split(" ");
        for (int n = 0; n < names.length; n++) {
            String start = names[n] + (n < MEMORY.split(" ").length ? " $5," : " $f5,");
            int base = wordOf(start + "0($6)");
            Bench.due("field of 0", base & 0xFFFF, 0);
            Bench.dueWords(start + "32767($6)", base | 0x7FFF);
            Bench.dueWords(start + "-32768($6)", base | 0x8000);
            fault(start + "32768($6)", Bench.RANGE);
            fault(start + "-32769($6)", Bench.RANGE);
            Bench.dueWords(start + "%lo(0x18000)($6)", base | 0x8000);
            Bench bench = Bench.dueWords(start + "%lo(x+9)($6)", base);
            bench.dueRelocation(0, 0, 0, 0, 6, 0, 9);
            Bench.due("relocations", bench.forge.count(3, 0), 1);
        }
    }

    private static void memoryWithoutNumber() {
        Bench.about("(i may be missing: 0)");
        for (String name : MEMORY.split(" ")) {
            Bench.dueWords(name + " $5,($6)", wordOf(name + " $5,0($6)"));
        }
        for (String name : MEMORY_OF_FRACTIONS.split(" ")) {
            Bench.dueWords(name + " $f5,($6)", wordOf(name + " $f5,0($6)"));
        }
        // Not what the line ahead had.
        Bench.dueWords("addiu $1,$2,5\nlw $1,($2)\nlui $1,%hi(0x90000)\nlw $1,($2)",
                0x24410005, 0x8C410000, 0x3C010009, 0x8C410000);
    }

    private static void memoryExpressions() {
        Bench.about("m that is an EXPRESSION: lui $1,%hi(E), then it with %lo(E)($1).");
        String[] names = (MEMORY + " " + MEMORY_OF_FRACTIONS).split(" ");
        for (int n = 0; n < names.length; n++) {
            String start = names[n] + (n < MEMORY.split(" ").length ? " $5," : " $f5,");
            int second = wordOf(start + "0($1)");
            Bench bench = Bench.dueWords(start + "x-8", 0x3C010000, second);
            Bench.due("relocations", bench.forge.count(3, 0), 2);
            bench.dueRelocation(0, 0, 0, 0, 5, 0, -8);
            bench.dueRelocation(0, 1, 0, 4, 6, 0, -8);
        }
    }

    private static void memoryParts() {
        Bench.about("m either i and (s) .. or an EXPRESSION with a NAME");
        for (String wrong : new String[] {"4", "4(", "4($2", "4 $2)", "4()", "4(5)", "4(x)",
            "4($f2)", "($2", "()", "$2", "%lo(x)", "%lo(x)(", "%hi(x)($2)", "x($2)", "x+4($2)",
            "x(", "4($2)($3)", "4($2)+4", "(4)($2)", ""}) {
            fault("lw $1," + wrong, Bench.OPERANDS);
            fault("swc1 $f1," + wrong, Bench.OPERANDS);
        }
        fault("lw $1,4($32)", Bench.BYTE);
        fault("lw $1,4@($2)", Bench.BYTE);
        fault("lw $1,4($2@", Bench.BYTE);
    }

    private static void namesOfBranches() {
        Bench.about("L, J an EXPRESSION with a NAME");
        for (String name : new String[] {"b ", "bal ", "beq $1,$2,", "bgez $1,", "bc1t 1,",
            "blt $1,$2,", "beqz $1,", "j ", "jal ", "la $1,"}) {
            for (String wrong : new String[] {"4", "0x10", "'a'", "-4", "-x", "%lo(x)",
                "(x)", "x+", "x+y", "x+$1", "x(", "\"x\"", "$1"}) {
                fault(name + wrong, Bench.OPERANDS);
            }
            Bench.made(name + "x");
            Bench.made(name + "x+8");
            Bench.made(name + "x - 8");
        }
    }

    private static void onlyInText() {
        Bench.about("INSTRUCTIONS .. only in TEXT");
        for (String section : new String[] {".data", ".bss"}) {
            for (String[] form : FORMS) {
                for (String name : form[1].split(" ")) {
                    Bench.dueFault(section + "\n" + line(name, form[0], -1, ""), Bench.PLACE, 2);
                }
            }
            Bench.dueWords(section + "\n.text\nnop", 0);
        }
    }

    private static void multiplesOfFour() {
        Bench.about("at multiples of 4");
        for (String[] form : FORMS) {
            for (String name : form[1].split(" ")) {
                String line = line(name, form[0], -1, "");
                for (int at = 1; at < 4; at++) {
                    Bench.dueFault(".space " + at + "\n" + line, Bench.PLACE, 2);
                }
                Bench.made(".space 4\n" + line);
            }
        }
    }

    private static void numberLoads() {
        Bench.about("li t,NUMBER: as 32 bits with a sign");
        long[] numbers = {0, 1, -1, 32766, 32767, 32768, 32769, 65534, 65535, 65536, 65537, -32767,
            -32768, -32769, -65535, -65536, -65537, 0x7FFF0000L, 0x7FFFFFFFL, 0x80000000L,
            0x80000001L, -0x80000000L, -0x7FFFFFFFL, 0xFFFF0000L, 0xFFFF7FFFL, 0xFFFF8000L,
            0xFFFF8001L, 0xFFFFFFFFL, 0x12345678L, 0x12340000L, 0x00018000L};
        for (long number : numbers) {
            int value = (int) number;
            int low = value & 0xFFFF;
            int high = value >>> 16;
            if (value >= -32768 && value <= 32767) {
                Bench.dueWords("li $9," + number, 0x24090000 | low);
            } else if (value >= 32768 && value <= 65535) {
                Bench.dueWords("li $9," + number, 0x34090000 | low);
            } else if (low == 0) {
                Bench.dueWords("li $9," + number, 0x3C090000 | high);
            } else {
                Bench.dueWords("li $9," + number, 0x3C090000 | high, 0x35290000 | low);
            }
        }
        fault("li $9,4294967296", Bench.BYTE);
        fault("li $9,-2147483649", Bench.BYTE);
    }

    private static void addressLoads() {
        Bench.about("la t,E (E an EXPRESSION with a NAME): lui t,%hi(E), addiu t,t,%lo(E).");
        for (int t = 0; t < 32; t++) {
            Bench bench = Bench.dueWords("la $" + t + ",x+5",
                    0x3C000000 | t << 16, 0x24000000 | t << 21 | t << 16);
            Bench.due("relocations", bench.forge.count(3, 0), 2);
            bench.dueRelocation(0, 0, 0, 0, 5, 0, 5);
            bench.dueRelocation(0, 1, 0, 4, 6, 0, 5);
        }
        fault("la $4,5", Bench.OPERANDS);
        fault("la $4,x($5)", Bench.OPERANDS);
    }

    private static void comparingBranches() {
        Bench.about("blt bge bgt ble (and bltu bgeu bgtu bleu) s,t,L");
        String[] names = {"blt", "bge", "bgt", "ble", "bltu", "bgeu", "bgtu", "bleu"};
        for (int i = 0; i < 8; i++) {
            boolean turned = (i & 2) != 0;
            int compare = (i < 4 ? 0x0000082A : 0x0000082B)
                    | (turned ? 30 << 21 | 17 << 16 : 17 << 21 | 30 << 16);
            int branch = names[i].startsWith("blt") || names[i].startsWith("bgt")
                    ? 0x14200000 : 0x10200000;
            Bench.dueWords("x: " + names[i] + " $17,$30,x", compare, branch | 0xFFFE);
            Bench bench = Bench.dueWords(names[i] + " $17,$30,y-4", compare, branch);
            Bench.due("relocations", bench.forge.count(3, 0), 1);
            bench.dueRelocation(0, 0, 0, 4, 10, 0, -4);
        }
    }

    private static void divisions() {
        Bench.about("div, divu, rem, remu d,s,t: div (divu) s,t, then mflo d (mfhi for rem).");
        Bench.dueWords("div $3,$17,$30", 0x023E001A, 0x00001812);
        Bench.dueWords("divu $3,$17,$30", 0x023E001B, 0x00001812);
        Bench.dueWords("rem $3,$17,$30", 0x023E001A, 0x00001810);
        Bench.dueWords("remu $3,$17,$30", 0x023E001B, 0x00001810);
        Bench.dueWords("div $17,$30\ndivu $17,$30", 0x023E001A, 0x023E001B);
        fault("div $1,$2,$3,$4", Bench.OPERANDS);
        fault("div $1,$2,", Bench.OPERANDS);
        fault("rem $1,$2", Bench.OPERANDS);
    }

    private static void oneForOne() {
        Bench.about("move d,s: addu d,s,$0. .. beqz s,L, bnez s,L: beq, bne s,$0,L.");
        String[][] same = {{"move $17,$30", "addu $17,$30,$0"}, {"not $17,$30", "nor $17,$30,$0"},
            {"neg $17,$30", "subu $17,$0,$30"}, {"jalr $30", "jalr $31,$30"},
            {"x: b x", "x: beq $0,$0,x"}, {"x: bal x", "x: bgezal $0,x"},
            {"x: beqz $30,x", "x: beq $30,$0,x"}, {"x: bnez $30,x", "x: bne $30,$0,x"},
            {"b y", "beq $0,$0,y"}, {"bal y", "bgezal $0,y"}, {"beqz $30,y", "beq $30,$0,y"},
            {"bnez $30,y", "bne $30,$0,y"}};
        for (String[] pair : same) {
            Bench.dueWords(pair[0], wordOf(pair[1]));
        }
    }

    private static String branchOn(String form, String name, String target) {
        return name + " " + form.replace("s", "$4,").replace("t", "$5,").replace("k", "3,")
                .replace("L", target);
    }

    private static void branchWords() {
        Bench.about("by 4, -32768 .. 32767");
        for (String[] form : FORMS) {
            if (!form[0].endsWith("L")) {
                continue;
            }
            for (String name : form[1].split(" ")) {
                boolean two = Bench.made(branchOn(form[0], name, "y")).forge.size(0, 0) == 8;
                int place = two ? 4 : 0;
                int base = Bench.made(branchOn(form[0], name, "y")).wordOf(0, 0, place);
                Bench.due("field of a relocation", base & 0xFFFF, 0);
                int[] words = {-32768, -32767, -1, 0, 1, 32766, 32767};
                for (int each : words) {
                    String target = told(4 * each + place + 4);
                    Bench bench = Bench.made("x: " + branchOn(form[0], name, target));
                    Bench.due(name + " " + target, bench.wordOf(0, 0, place), base | each & 0xFFFF);
                    Bench.due("relocations", bench.forge.count(3, 0), 0);
                }
                fault("x: " + branchOn(form[0], name, told(4 * 32768 + place + 4)), Bench.RANGE);
                fault("x: " + branchOn(form[0], name, told(4 * -32769 + place + 4)), Bench.RANGE);
            }
        }
        // From both ends of a full TEXT.
        Bench.dueWords("b x\nx: b x\n", 0x10000000, 0x1000FFFF);
        Bench far = Bench.made("y: b x\n.space 4088\nx: b y");
        Bench.due("forward", far.wordOf(0, 0, 0), 0x100003FE);
        Bench.due("back", far.wordOf(0, 0, 4092), 0x1000FC00);
        Bench end = Bench.made("b x\n.space 4092\nx:");
        Bench.due("to the end", end.wordOf(0, 0, 0), 0x100003FF);
    }

    private static String told(int addend) {
        return addend < 0 ? "x-" + -addend : "x+" + addend;
    }

    private static void branchRests() {
        Bench.about("without a rest");
        for (int rest = 1; rest < 4; rest++) {
            fault("x: b x+" + rest, Bench.RANGE);
            fault("x: b x-" + rest, Bench.RANGE);
            fault("x: beq $1,$2,x+" + (100 + rest), Bench.RANGE);
            Bench.dueFault("b x\n.space " + rest + "\nx:", Bench.RANGE, 1);
        }
        Bench.dueWords("x: b x+4\nb x-4", 0x10000000, 0x1000FFFD);
    }

    private static void branchesElsewhere() {
        Bench.about("A branch to a symbol of the same text's TEXT; RELOCATIONS come otherwise");
        Bench bench = Bench.dueWords("b d+2\nb u+1\nb z-3\nb t\nt:\n.data\nd:\n.bss\nz:",
                0x10000000, 0x10000000, 0x10000000, 0x10000000);
        Bench.due("relocations", bench.forge.count(3, 0), 3);
        bench.dueRelocation(0, 0, 0, 0, 10, 0, 2);
        bench.dueRelocation(0, 1, 0, 4, 10, 1, 1);
        bench.dueRelocation(0, 2, 0, 8, 10, 2, -3);
        // A GLOBAL one of the same TEXT is no other object's.
        bench = Bench.dueWords(".globl t,v\nt: b t\nbeqz $4,v\nv:", 0x1000FFFF, 0x10800000);
        Bench.due("relocations", bench.forge.count(3, 0), 0);
        // A jump within TEXT has one nevertheless, and so have words and halves.
        bench = Bench.dueWords("t: j t+8\njal t\nla $4,t\n.word t",
                0x08000000, 0x0C000000, 0x3C040000, 0x24840000, 0);
        Bench.due("relocations", bench.forge.count(3, 0), 5);
        bench.dueRelocation(0, 0, 0, 0, 4, 0, 8);
        bench.dueRelocation(0, 1, 0, 4, 4, 0, 0);
        bench.dueRelocation(0, 4, 0, 16, 2, 0, 0);
    }

    private static void relocationsInOrder() {
        Bench.about("in the order of the text (of two words the HIGH first)");
        Bench bench = Bench.made(".data\n.word x-1\n.text\nx: jal y+8\nb x\nla $4,x\n.word y\n"
                + ".data\n.word 5,z\n.text\nb z-4\nb x\nsw $4,z\nb x\n.data\n.word z+12");
        int[][] due = {{1, 0, 2, 0, -1}, {0, 0, 4, 1, 8}, {0, 8, 5, 0, 0}, {0, 12, 6, 0, 0},
            {0, 16, 2, 1, 0}, {1, 8, 2, 2, 0}, {0, 20, 10, 2, -4}, {0, 28, 5, 2, 0},
            {0, 32, 6, 2, 0}, {1, 12, 2, 2, 12}};
        Bench.due("relocations", bench.forge.count(3, 0), due.length);
        for (int k = 0; k < due.length; k++) {
            bench.dueRelocation(0, k, due[k]);
            int field = bench.wordOf(0, due[k][0], due[k][1]);
            int mask = due[k][2] == 2 ? -1 : due[k][2] == 4 ? 0x3FFFFFF : 0xFFFF;
            Bench.due("field " + k, field & mask, 0);
        }
    }
}
