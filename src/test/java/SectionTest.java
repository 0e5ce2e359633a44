/** Promise 4, SECTIONS, SYMBOLS and DIRECTIVES: every sentence with a bound has its own test. */
public final class SectionTest {
    private static final String[] SECTIONS = {".text\n", ".data\n", ".bss\n"};

    public static void main(String[] args) {
        fullSections();
        fullByEveryDirective();
        fullByInstructions();
        beginsInText();
        eachHasItsOwn();
        labelsAreTheSizeSoFar();
        symbolsAsTheyCome();
        undefinedSymbols();
        switches();
        globals();
        words();
        halves();
        bytes();
        spaces();
        aligns();
        strings();
        placesOfWords();
        placesOfHalves();
        placesOfOthers();
        inBss();
        Bench.close("SectionTest");
    }

    private static void fault(String line, int fault) {
        Bench.dueFault("\n" + line + "\n", fault, 2);
    }

    private static void dueSizes(Bench bench, int text, int data, int bss) {
        Bench.due("TEXT", bench.forge.size(0, 0), text);
        Bench.due("DATA", bench.forge.size(0, 1), data);
        Bench.due("BSS", bench.forge.size(0, 2), bss);
    }

    private static void fullSections() {
        Bench.about("each with at most 4,096 bytes");
        for (String section : SECTIONS) {
            Bench.made(section + ".space 4096");
            Bench.made(section + ".space 4095\n.space 1\n.space 0\n.align 3");
            Bench.dueFault(section + ".space 4096\n.space 1", Bench.MANY, 3);
            Bench.dueFault(section + ".space 1\n.space 4096", Bench.MANY, 3);
            Bench.dueFault(section + ".space 4096\n.space 4096", Bench.MANY, 3);
            Bench.made(section + ".space 4089\n.align 3\n.space 0");
        }
        Bench bench = Bench.made(".space 4096\n.data\n.space 4096\n.bss\n.space 4096");
        dueSizes(bench, 4096, 4096, 4096);
        Bench.due("last of TEXT", bench.forge.byteAt(0, 0, 4095), 0);
        Bench.due("last of DATA", bench.forge.byteAt(0, 1, 4095), 0);
        Bench.dueIndex("behind TEXT", () -> bench.forge.byteAt(0, 0, 4096));
        Bench.dueIndex("behind DATA", () -> bench.forge.byteAt(0, 1, 4096));
    }

    private static void fullByEveryDirective() {
        Bench.about("more than 4,096 bytes in a section");
        String[] lines = {".word 1", ".half 1", ".byte 1", ".ascii \"a\"", ".asciiz \"\"",
            ".space 1"};
        int[] widths = {4, 2, 1, 1, 1, 1};
        for (int i = 0; i < lines.length; i++) {
            for (int s = 0; s < 2; s++) {
                String room = SECTIONS[s] + ".space " + (4096 - widths[i]) + "\n";
                Bench bench = Bench.made(room + lines[i]);
                Bench.due("full", bench.forge.size(0, s), 4096);
                Bench.dueFault(room + lines[i] + "\n" + lines[i], Bench.MANY, 4);
                Bench.dueFault(SECTIONS[s] + ".space 4096\n" + lines[i], Bench.MANY, 3);
            }
        }
        Bench.dueFault(".space 4092\n.word 1,2", Bench.MANY, 2);
        Bench.dueFault(".space 4094\n.half 1,2", Bench.MANY, 2);
        Bench.dueFault(".space 4095\n.byte 1,2", Bench.MANY, 2);
        Bench.dueFault(".space 4095\n.ascii \"ab\"", Bench.MANY, 2);
        Bench.dueFault(".space 4095\n.ascii \"a\",\"b\"", Bench.MANY, 2);
        Bench.dueFault(".space 4095\n.asciiz \"a\"", Bench.MANY, 2);
        Bench.made(".space 4095\n.ascii \"a\",\"\"");
        Bench.made(".space 4095\n.ascii \"\\n\"");
        Bench.made(".space 4096\n.ascii \"\"");
    }

    private static void fullByInstructions() {
        Bench.about("INSTRUCTIONS, four bytes each: more than 4,096 bytes in a section");
        Bench bench = Bench.made(".space 4092\njr $31");
        Bench.due("last word", bench.wordOf(0, 0, 4092), 0x03E00008);
        Bench.dueFault(".space 4092\nnop\nnop", Bench.MANY, 3);
        String[] twoWords = {"la $4,x", "lw $4,x", "sdc1 $f4,x", "li $4,65537", "blt $4,$5,x",
            "bgeu $4,$5,x", "div $3,$4,$5", "remu $3,$4,$5"};
        for (String line : twoWords) {
            Bench.due("full", Bench.made(".space 4088\n" + line).forge.size(0, 0), 4096);
            Bench.dueFault(".space 4092\n" + line, Bench.MANY, 2);
            Bench.dueFault(".space 4096\n" + line, Bench.MANY, 2);
        }
        for (String line : new String[] {"li $4,5", "li $4,65535", "li $4,65536", "lw $4,5($6)",
            "div $4,$5", "b x", "jalr $4", "move $4,$5"}) {
            Bench.due("full", Bench.made(".space 4092\n" + line).forge.size(0, 0), 4096);
            Bench.dueFault(".space 4096\n" + line, Bench.MANY, 2);
        }
    }

    private static void beginsInText() {
        Bench.about("the text begins in 0.");
        Bench bench = Bench.made("a: .byte 7");
        dueSizes(bench, 1, 0, 0);
        bench.dueSymbol(0, 0, "a", 0, 0, 0);
        // Whatever section the text ahead ended in.
        Bench.due("second", bench.make(".bss\n"), 1);
        Bench.due("third", bench.make("b: .byte 8"), 2);
        Bench.due("its TEXT", bench.forge.byteAt(2, 0, 0), 8);
        Bench.due("at a fault", bench.make(".data\n@"), ObjectForge.NONE);
        Bench.due("fourth", bench.make("nop"), 3);
        Bench.due("its TEXT", bench.forge.size(3, 0), 4);
    }

    private static void eachHasItsOwn() {
        Bench.about("SECTIONS are 0 TEXT, 1 DATA, 2 BSS");
        Bench bench = Bench.made(".byte 1\n.data\n.byte 2,3\n.bss\n.space 3\n.text\n.byte 4\n"
                + ".data\n.byte 5,6\n.bss\n.space 4");
        dueSizes(bench, 2, 4, 7);
        Bench.due("TEXT goes on", bench.forge.byteAt(0, 0, 1), 4);
        Bench.due("DATA goes on", bench.forge.byteAt(0, 1, 2), 5);
    }

    private static void labelsAreTheSizeSoFar() {
        Bench.about("A label is a SYMBOL of the section and its size so far.");
        Bench bench = Bench.made("a: nop\nb: la $4,a\nc:\n.data\nd: .byte 1\ne: .align 3\nf:\n"
                + ".bss\ng: .space 4096\nh:\n.text\ni:");
        int[][] due = {{0, 0}, {0, 4}, {0, 12}, {1, 0}, {1, 1}, {1, 8}, {2, 0}, {2, 4096}, {0, 12}};
        for (int k = 0; k < due.length; k++) {
            bench.dueSymbol(0, k, "abcdefghi".substring(k, k + 1), due[k][0], due[k][1], 0);
        }
    }

    private static void symbolsAsTheyCome() {
        Bench.about("SYMBOLS are numbered as their names come, by a label, .globl, or an operand");
        Bench bench = Bench.made("j s0\ns1: .globl s2,s0,s3\nla $4,s4\nlw $4,s5\nlui $4,%hi(s6)\n"
                + "addiu $4,$4,%lo(s7)\nlw $4,%lo(s8)($4)\nb s9\n.word s10,s1,s11\nbeqz $4,s12\n"
                + "bc1t 3,s13\nbgtu $4,$5,s14\ns15: s16: j s17\ns9: s2:");
        Bench.due("symbols", bench.forge.count(2, 0), 18);
        for (int k = 0; k < 18; k++) {
            String name = "s" + k;
            Bench.due(name, name.equals(bench.nameOf(0, k)) ? 1 : 0, 1);
        }
        bench.dueSymbol(0, 2, "s2", 0, 68, 1);
        bench.dueSymbol(0, 9, "s9", 0, 68, 0);
    }

    private static void undefinedSymbols() {
        Bench.about("one that is no label is UNDEFINED");
        Bench bench = Bench.made(".globl a,b\nj c\nb: nop\nj d\nd:");
        bench.dueSymbol(0, 0, "a", -1, 0, 1);
        bench.dueSymbol(0, 1, "b", 0, 4, 1);
        bench.dueSymbol(0, 2, "c", -1, 0, 0);
        bench.dueSymbol(0, 3, "d", 0, 12, 0);
    }

    private static void switches() {
        Bench.about(".text .data .bss: the section is that one from now on.");
        Bench bench = Bench.made(".data\n.data\n.byte 1\n.text\n.text\nnop\n.bss\n.bss\n.space 2");
        dueSizes(bench, 4, 1, 2);
        for (String name : new String[] {".text", ".data", ".bss"}) {
            for (String behind : new String[] {"x", "0", "$1", "\"a\"", ",", "-"}) {
                fault(name + " " + behind, Bench.OPERANDS);
            }
            fault(name + " @", Bench.BYTE);
            fault(name + "x", Bench.OPERATION);
        }
    }

    private static void globals() {
        Bench.about(".globl NAME, ..: these are GLOBAL.");
        Bench bench = Bench.made("a: b: .globl b\n.globl c , d,b\nc:");
        bench.dueSymbol(0, 0, "a", 0, 0, 0);
        bench.dueSymbol(0, 1, "b", 0, 0, 1);
        bench.dueSymbol(0, 2, "c", 0, 0, 1);
        bench.dueSymbol(0, 3, "d", -1, 0, 1);
        for (String wrong : new String[] {"", "5", "$1", "\"a\"", "a+1", "a,5", "a,", "-a", "%a"}) {
            fault(".globl " + wrong, Bench.OPERANDS);
        }
    }

    private static void words() {
        Bench.about(".word EXPRESSION, ..: four bytes each, the highest first");
        Bench bench = Bench.dueData(".data\n.word 0x01020304,-2,x,4294967295,-2147483648",
                1, 2, 3, 4, 255, 255, 255, 254, 0, 0, 0, 0, 255, 255, 255, 255, 128, 0, 0, 0);
        Bench.due("relocations", bench.forge.count(3, 0), 1);
        bench.dueRelocation(0, 0, 1, 8, 2, 0, 0);
        fault(".word 4294967296", Bench.BYTE);
        fault(".word -2147483649", Bench.BYTE);
        for (String wrong : new String[] {"", "$1", "$f1", "\"a\"", "%hi(x)", "%lo(5)", "(5)"}) {
            fault(".word " + wrong, Bench.OPERANDS);
        }
    }

    private static void halves() {
        Bench.about("as .half NUMBER, .. two (in -32768 .. 65535)");
        Bench.dueData(".data\n.half 65535,-32768,0,-1,0x102,32768",
                255, 255, 128, 0, 0, 0, 255, 255, 1, 2, 128, 0);
        fault(".half 65536", Bench.RANGE);
        fault(".half -32769", Bench.RANGE);
        fault(".half 1,65536", Bench.RANGE);
        for (String wrong : new String[] {"", "x", "$1", "\"a\"", "%lo(5)", "1+1"}) {
            fault(".half " + wrong, Bench.OPERANDS);
        }
    }

    private static void bytes() {
        Bench.about("and .byte NUMBER, .. one (in -128 .. 255)");
        Bench.dueData(".data\n.byte 255,-128,0,-1,127,128", 255, 128, 0, 255, 127, 128);
        fault(".byte 256", Bench.RANGE);
        fault(".byte -129", Bench.RANGE);
        fault(".byte 1,-129", Bench.RANGE);
        fault(".byte -'\u00ff'", Bench.RANGE);
        for (String wrong : new String[] {"", "x", "$1", "\"a\"", "%lo(5)", "1+1"}) {
            fault(".byte " + wrong, Bench.OPERANDS);
        }
    }

    private static void spaces() {
        Bench.about(".space n (0 .. 4096): n bytes 0.");
        for (int n : new int[] {0, 1, 4095, 4096}) {
            Bench.due(".space " + n, Bench.made(".space " + n).forge.size(0, 0), n);
        }
        Bench.dueData(".data\n.byte 1\n.space 3\n.byte 2", 1, 0, 0, 0, 2);
        fault(".space 4097", Bench.RANGE);
        fault(".space -1", Bench.RANGE);
        fault(".space 0xFFFFFFFF", Bench.RANGE);
        for (String wrong : new String[] {"", "x", "$1", "1,1", "1 1", "%lo(5)"}) {
            fault(".space " + wrong, Bench.OPERANDS);
        }
        // 0, even where another text left other bytes.
        Bench bench = new Bench();
        bench.make(".word -1,-1\n.data\n.word -1,-1\n@");
        bench.make(".space 8\n.data\n.byte 1\n.align 3");
        Bench.due("TEXT", bench.wordOf(0, 0, 4), 0);
        Bench.due("DATA", bench.wordOf(0, 1, 4), 0);
    }

    private static void aligns() {
        Bench.about(".align n (0 .. 3): bytes 0 up to a multiple of 2^n.");
        for (int n = 0; n <= 3; n++) {
            for (int at = 0; at <= 9; at++) {
                int unit = 1 << n;
                int due = (at + unit - 1) / unit * unit;
                String text = ".space " + at + "\n.align " + n;
                for (int s = 0; s < 3; s++) {
                    Bench bench = Bench.made(SECTIONS[s] + text);
                    Bench.due(text, bench.forge.size(0, s), due);
                }
            }
        }
        Bench.dueData(".data\n.byte -1\n.align 2\n.byte -1\n.align 3", 255, 0, 0, 0, 255, 0, 0, 0);
        fault(".align 4", Bench.RANGE);
        fault(".align -1", Bench.RANGE);
        for (String wrong : new String[] {"", "x", "$1", "1,1", "1 1", "%lo(1)"}) {
            fault(".align " + wrong, Bench.OPERANDS);
        }
    }

    private static void strings() {
        Bench.about(".ascii STRING, ..; .asciiz STRING, .. (a byte 0 behind each).");
        Bench.dueData(".data\n.ascii \"ab\" , \"\",\"c\"", 'a', 'b', 'c');
        Bench.dueData(".data\n.asciiz \"ab\" , \"\",\"c\"", 'a', 'b', 0, 0, 'c', 0);
        for (String name : new String[] {".ascii ", ".asciiz "}) {
            for (String wrong : new String[] {"", "x", "5", "'a'", "$1", "\"a\",5", "\"a\"+1"}) {
                fault(name + wrong, Bench.OPERANDS);
            }
        }
    }

    private static void placesOfWords() {
        Bench.about(".word and .half only at multiples of 4 and 2. (.word)");
        for (int s = 0; s < 2; s++) {
            for (int at = 0; at < 9; at++) {
                String text = SECTIONS[s] + ".space " + at + "\n.word 1";
                if (at % 4 == 0) {
                    Bench.due(text, Bench.made(text).forge.size(0, s), at + 4);
                } else {
                    Bench.dueFault(text, Bench.PLACE, 3);
                }
            }
        }
    }

    private static void placesOfHalves() {
        Bench.about(".word and .half only at multiples of 4 and 2. (.half)");
        for (int s = 0; s < 2; s++) {
            for (int at = 0; at < 5; at++) {
                String text = SECTIONS[s] + ".space " + at + "\n.half 1";
                if (at % 2 == 0) {
                    Bench.due(text, Bench.made(text).forge.size(0, s), at + 2);
                } else {
                    Bench.dueFault(text, Bench.PLACE, 3);
                }
            }
        }
    }

    private static void placesOfOthers() {
        Bench.about("only .word and .half have places");
        for (int s = 0; s < 2; s++) {
            Bench bench = Bench.made(SECTIONS[s] + ".byte 1\n.byte 1\n.byte 1\n.ascii \"a\"\n"
                    + ".asciiz \"\"\n.ascii \"a\"\n.space 1\n.align 0\n.globl x\nx: .text");
            Bench.due("bytes", bench.forge.size(0, s), 7);
        }
    }

    private static void inBss() {
        Bench.about(".word, .half, .byte, .ascii, .asciiz in BSS");
        for (String text : new String[] {".word 1", ".half 1", ".byte 1", ".ascii \"a\"",
            ".asciiz \"a\"", ".word x", ".ascii \"\""}) {
            Bench.dueFault(".bss\n" + text, Bench.PLACE, 2);
            Bench.dueFault(".bss\n.space 8\nl: " + text, Bench.PLACE, 3);
        }
        Bench bench = Bench.made(".bss\na: .space 5\n.align 3\n.globl a,b\nb:");
        dueSizes(bench, 0, 0, 8);
        bench.dueSymbol(0, 1, "b", 2, 8, 1);
    }
}
