import java.util.Arrays;

/** Promise 4, Terms from TEXT to A LINE: every sentence with a bound has a test of its own. */
public final class TokenTest {
    private static final String NAME_24 = "abcdefghijklmnopqrstuvwx";

    public static void main(String[] args) {
        endsOfLines();
        lastLine();
        bytesThatWent();
        blanks();
        passedBytes();
        firstByteOfNames();
        otherBytesOfNames();
        longNames();
        registersByNumber();
        registersByName();
        fractions();
        digits();
        digitsOfSixteen();
        bytesBetweenQuotes();
        escapedBytes();
        signs();
        numbersAsTold();
        numbersBy32Bits();
        strings();
        escapesOfStrings();
        unendedStrings();
        expressions();
        expressionsWithoutSign();
        labels();
        commas();
        Bench.close("TokenTest");
    }

    private static void fault(String line, int fault) {
        Bench.dueFault("\n" + line + "\n", fault, 2);
    }

    /** A word of DATA. */
    private static void word(String number, int due) {
        Bench bench = Bench.made(".data\n.word " + number);
        Bench.due("bytes of .word " + number, bench.forge.size(0, 1), 4);
        Bench.due(".word " + number, bench.wordOf(0, 1, 0), due);
    }

    private static void endsOfLines() {
        Bench.about("a byte 10 ends a line");
        Bench.dueFault("@", Bench.BYTE, 1);
        Bench.dueFault("\n@", Bench.BYTE, 2);
        Bench.dueFault("nop\n\n \n@\n@", Bench.BYTE, 4);
        Bench.dueWords("nop\nnop\n", 0, 0);
        fault("nop\rnop", Bench.BYTE);
        fault("nop\u000Bnop", Bench.BYTE);
        fault("nop\0", Bench.BYTE);
    }

    private static void lastLine() {
        Bench.about("the text's end the last one.");
        Bench.dueWords("", new int[0]);
        Bench.dueWords("\n", new int[0]);
        Bench.dueWords("jr $1", 0x00200008);
        Bench.dueWords("jr $1\n", 0x00200008);
        Bench.dueWords("jr $1 # x", 0x00200008);
        Bench.dueFault("nop\nadd", Bench.OPERANDS, 2);
        Bench.dueFault(".word 0x", Bench.BYTE, 1);
        Bench.dueFault(".word 'a", Bench.BYTE, 1);
        Bench.dueFault(".ascii \"a", Bench.BYTE, 1);
        Bench.dueFault(".ascii \"a\\", Bench.BYTE, 1);
        Bench.dueFault("jr $", Bench.BYTE, 1);
    }

    /** Bytes that went again by end() are none of the text. */
    private static void bytesThatWent() {
        Bench.about("The last n bytes go again");
        dueCut("jr $31          ", 11, 0);
        dueCut("jr $f1          ", 11, Bench.BYTE);
        dueCut("jr $sp          ", 11, Bench.BYTE);
        dueCut(".word 'a'       ", 8, Bench.BYTE);
        dueCut(".word 'a'       ", 9, Bench.BYTE);
        dueCut(".word '\\n'      ", 8, Bench.BYTE);
        dueCut(".word '\\n'      ", 7, Bench.BYTE);
        dueCut(".word 0x1       ", 8, Bench.BYTE);
        dueCut(".word 0x1       ", 9, 0);
        dueCut(".word 4294967296", 1, 0);
        dueCut(".ascii \"ab\"     ", 6, Bench.BYTE);
        dueCut(".ascii \"\\n\"     ", 7, Bench.BYTE);
        dueCut("lw $1,4($2)     ", 6, Bench.OPERANDS);
        dueCut("add $1,$2,$3    ", 6, Bench.OPERANDS);
        dueCut("nop @           ", 12, 0);
        dueCut("a:a:            ", 14, 0);
        dueCut("a:a:            ", 13, Bench.OPERATION);
        dueCut("j x+4           ", 12, Bench.OPERANDS);
        dueCut("nopx            ", 13, 0);
    }

    /** The fault (0 none) of sixteen bytes, less the last n. */
    private static void dueCut(String sixteen, int n, int fault) {
        Bench bench = new Bench();
        bench.feed(sixteen);
        Bench.due("end", bench.forge.end(n), 16 - n);
        String what = sixteen.substring(0, 16 - n) + ", with more that went";
        Bench.due(what, bench.forge.assemble(), fault == 0 ? 0 : ObjectForge.NONE);
        Bench.due("fault of " + what, bench.forge.fault(0), fault);
    }

    private static void blanks() {
        Bench.about("BLANKS are 32 and 9; they may stand between all that follows.");
        Bench.dueWords("lw$4,-4($5)", 0x8CA4FFFC);
        Bench.dueWords(" \tlw \t$4\t , \t -4 \t( $5\t)  ", 0x8CA4FFFC);
        Bench.dueWords("\ta\t: b :lw \t$4,%lo\t( 5 )\t($5)", 0x8CA40005);
        Bench.dueWords("x : b x\t+ \t4", 0x10000000);
        for (int c : new int[] {0, 1, 8, 11, 12, 13, 31, 127, 128, 160, 255}) {
            fault("nop " + (char) c, Bench.BYTE);
            fault((char) c + "nop", Bench.BYTE);
            fault("add $1," + (char) c + "$2,$3", Bench.BYTE);
        }
    }

    private static void passedBytes() {
        Bench.about("# and what is behind it (outside of a STRING and a character) .. is passed.");
        Bench.dueWords("#", new int[0]);
        Bench.dueWords("# @ ' \" \\ $ 99999999999\nnop# x: nop\nnop #\0\u00ff", 0, 0);
        Bench.dueWords("x: # nop\nb x", 0x1000FFFF);
        Bench.dueData(".data\n.byte '#', 1 # ',2\n.ascii \"#\", \"a#b\" # \",\n.byte 3",
                '#', 1, '#', 'a', '#', 'b', 3);
        fault("add $1,$2 #,$3", Bench.OPERANDS);
        fault(".byte #", Bench.OPERANDS);
        fault(".byte '#", Bench.BYTE);
        fault(".ascii \"#", Bench.BYTE);
    }

    private static void firstByteOfNames() {
        Bench.about("NAMES: a letter A .. Z, a .. z, _ or .");
        String firsts = "AZaz_.";
        for (int i = 0; i < firsts.length(); i++) {
            String name = firsts.substring(i, i + 1);
            Bench bench = Bench.made(name + ":");
            bench.dueSymbol(0, 0, name, 0, 0, 0);
            fault(name, Bench.OPERATION);
        }
        // The bytes next to letters, and others.
        for (String none : new String[] {"@", "[", "`", "{", "^", "/", "!", "&", "*", ";", "<", "=",
            ">", "?", "\\", "]", "|", "}", "~", "\u00c0", "\u00e9"}) {
            fault(none, Bench.BYTE);
            fault(none + ":", Bench.BYTE);
            fault("nop " + none, Bench.BYTE);
            fault("j " + none, Bench.BYTE);
        }
        fault("0:", Bench.OPERANDS);
        fault("9:", Bench.OPERANDS);
    }

    private static void otherBytesOfNames() {
        Bench.about("then these and digits");
        Bench bench = Bench.made("a0: z9: .A_Z: _.: A.0_9z:");
        String[] names = {"a0", "z9", ".A_Z", "_.", "A.0_9z"};
        Bench.due("symbols", bench.forge.count(2, 0), names.length);
        for (int k = 0; k < names.length; k++) {
            bench.dueSymbol(0, k, names[k], 0, 0, 0);
        }
        for (String other : new String[] {"/", "[", "@", "`", "{", "\u00aa"}) {
            fault("a" + other + ":", Bench.OPERATION);
            fault("j a" + other, Bench.BYTE);
        }
    }

    private static void longNames() {
        Bench.about("24 bytes at most.");
        Bench bench = Bench.made(NAME_24 + ": j " + NAME_24 + "\n.globl " + NAME_24);
        Bench.due("symbols", bench.forge.count(2, 0), 1);
        bench.dueSymbol(0, 0, NAME_24, 0, 0, 1);
        Bench.due("bytes", bench.forge.symbol(0, 0, 3), 24);
        fault(NAME_24, Bench.OPERATION);
        for (String more : new String[] {"y", "0", ".", "_", "yz0123456789"}) {
            fault(NAME_24 + more + ":", Bench.BYTE);
            fault(NAME_24 + more, Bench.BYTE);
            fault("j " + NAME_24 + more, Bench.BYTE);
            fault(".globl a," + NAME_24 + more, Bench.BYTE);
            fault(".word " + NAME_24 + more + "+1", Bench.BYTE);
            fault("lui $1,%hi(" + NAME_24 + more + ")", Bench.BYTE);
            fault("nop " + NAME_24 + more, Bench.BYTE);
        }
        // Names that are the same but for the last byte are two.
        String other = NAME_24.substring(0, 23) + "X";
        Bench.due("two", Bench.made(NAME_24 + ": " + other + ":").forge.count(2, 0), 2);
    }

    private static void registersByNumber() {
        Bench.about("REGISTERS: $ and 0 .. 31 (one or two digits, no 0 ahead of another)");
        for (int i = 0; i < 32; i++) {
            Bench.dueWords("jr $" + i, 8 | i << 21);
        }
        for (String none : new String[] {"$32", "$33", "$39", "$40", "$99", "$00", "$01", "$09",
            "$031", "$000", "$100", "$310", "$4294967296", "$"}) {
            fault("jr " + none, Bench.BYTE);
            fault("add $1,$2," + none, Bench.BYTE);
            fault("lw $1,4(" + none + ")", Bench.BYTE);
            fault("nop " + none, Bench.BYTE);
        }
    }

    private static void registersByName() {
        Bench.about("or $ and zero at v0 v1 a0 .. ra, in this order; s8 is fp.");
        String[] names = {"zero", "at", "v0", "v1", "a0", "a1", "a2", "a3", "t0", "t1", "t2", "t3",
            "t4", "t5", "t6", "t7", "s0", "s1", "s2", "s3", "s4", "s5", "s6", "s7", "t8", "t9",
            "k0", "k1", "gp", "sp", "fp", "ra"};
        for (int i = 0; i < 32; i++) {
            Bench.dueWords("jr $" + names[i], 8 | i << 21);
        }
        Bench.dueWords("jr $s8", 8 | 30 << 21);
        for (String none : new String[] {"$zer", "$zeroo", "$zeros", "$z", "$a", "$a4", "$v2", "$t",
            "$t10", "$s9", "$k2", "$g", "$fpp", "$r", "$raa", "$Zero", "$ZERO", "$AT", "$A0", "$x",
            "$tv", "$tx", "$_", "$."}) {
            fault("jr " + none, Bench.BYTE);
            fault("nop " + none, Bench.BYTE);
        }
    }

    private static void fractions() {
        Bench.about("FRACTIONS: $f and 0 .. 31 likewise.");
        for (int i = 0; i < 32; i++) {
            Bench.dueWords("mov.s $f" + i + ",$f" + (31 - i), 0x46000006 | i << 6 | (31 - i) << 11);
        }
        for (String none : new String[] {"$f32", "$f33", "$f40", "$f99", "$f00", "$f01", "$f031",
            "$f100", "$f", "$F1"}) {
            fault("mov.s $f1," + none, Bench.BYTE);
            fault("mov.s " + none + ",$f1", Bench.BYTE);
            fault("jr " + none, Bench.BYTE);
            fault("nop " + none, Bench.BYTE);
        }
    }

    private static void digits() {
        Bench.about("NUMBERS: digits .. below 2^32");
        word("0", 0);
        word("9", 9);
        word("1234567890", 1234567890);
        word("2147483647", Integer.MAX_VALUE);
        word("2147483648", Integer.MIN_VALUE);
        word("4294967295", -1);
        word("0000000000004294967295", -1);
        for (String none : new String[] {"4294967296", "4294967297", "42949672950", "8589934592",
            "9999999999", "18446744073709551616", "18446744073709551617",
            "99999999999999999999999999999999"}) {
            fault(".word " + none, Bench.BYTE);
            fault("li $1," + none, Bench.BYTE);
            fault("sll $1,$2," + none, Bench.BYTE);
            fault("lw $1,x+" + none, Bench.BYTE);
            fault("nop " + none, Bench.BYTE);
        }
        fault("nop 4294967295", Bench.OPERANDS);
    }

    private static void digitsOfSixteen() {
        Bench.about("or 0x and digits of sixteen (a .. f, A .. F), below 2^32");
        word("0x0", 0);
        word("0x01234567", 0x01234567);
        word("0x89abcdef", 0x89ABCDEF);
        word("0x89ABCDEF", 0x89ABCDEF);
        word("0xfFFFffff", -1);
        word("0x00000000000000000000ffffffff", -1);
        for (String none : new String[] {"0x", "0x100000000", "0xfffffffff", "0x10000000000000001",
            "0x ", "0x-1", "0x'a'"}) {
            fault(".word " + none, Bench.BYTE);
            fault("li $1," + none, Bench.BYTE);
            fault("nop " + none, Bench.BYTE);
        }
    }

    private static void bytesBetweenQuotes() {
        Bench.about("or a byte between two ' (no ', \\, 10)");
        for (int c = 0; c < 256; c++) {
            String text = ".word '" + (char) c + "'";
            if (c == '\'' || c == '\\' || c == 10) {
                Bench.dueFault(text, Bench.BYTE, 1);
            } else {
                Bench.dueWords(text, c);
            }
        }
        for (String none : new String[] {"'", "''", "'a", "'ab'", "'ab"}) {
            fault(".word " + none, Bench.BYTE);
            fault("li $1," + none, Bench.BYTE);
            fault("nop " + none, Bench.BYTE);
        }
    }

    private static void escapedBytes() {
        Bench.about("or \\ and n t 0 \\ ' \" there (10, 9, 0, \\, ', \")");
        for (int c = 0; c < 256; c++) {
            int at = "nt0\\'\"".indexOf(c);
            String text = ".word '\\" + (char) c + "'";
            if (at < 0) {
                Bench.dueFault(text, Bench.BYTE, 1);
            } else {
                Bench.dueWords(text, new int[] {10, 9, 0, '\\', '\'', '"'}[at]);
            }
        }
        for (String none : new String[] {"'\\", "'\\n", "'\\'", "'\\nn'", "'\\n\"", "'a\\n'"}) {
            fault(".word " + none, Bench.BYTE);
        }
    }

    private static void signs() {
        Bench.about("each perhaps with - ahead: from -2^31 to 2^32 - 1");
        word("-0", 0);
        word("-1", -1);
        word("-0x10", -16);
        word("-'a'", -97);
        word("-'\\n'", -10);
        word("-2147483647", -Integer.MAX_VALUE);
        word("-2147483648", Integer.MIN_VALUE);
        word("-0x80000000", Integer.MIN_VALUE);
        for (String none : new String[] {"-2147483649", "-0x80000001", "-4294967295", "-4294967296",
            "-0xFFFFFFFF", "-0x", "-''"}) {
            fault(".word " + none, Bench.BYTE);
            fault("li $1," + none, Bench.BYTE);
            fault(".byte 1," + none, Bench.BYTE);
            fault("lw $1," + none + "($2)", Bench.BYTE);
        }
    }

    private static void numbersAsTold() {
        Bench.about("bounds of operands are asked of the number as it is told");
        String[] minusOne = {"4294967295", "0xFFFFFFFF"};
        for (String told : minusOne) {
            fault("addiu $1,$2," + told, Bench.RANGE);
            fault("lw $1," + told + "($2)", Bench.RANGE);
            fault("ori $1,$2," + told, Bench.RANGE);
            fault("sll $1,$2," + told, Bench.RANGE);
            fault("break " + told, Bench.RANGE);
            fault("bc1f " + told + ",x", Bench.RANGE);
            fault(".half " + told, Bench.RANGE);
            fault(".byte " + told, Bench.RANGE);
            fault(".space " + told, Bench.RANGE);
            fault(".align " + told, Bench.RANGE);
        }
        fault("addiu $1,$2,0xFFFF8000", Bench.RANGE);
        fault("addiu $1,$2,-2147483648", Bench.RANGE);
        fault("ori $1,$2,-2147483648", Bench.RANGE);
        fault(".half -2147483648", Bench.RANGE);
        fault(".byte 0xFFFFFF80", Bench.RANGE);
    }

    private static void numbersBy32Bits() {
        Bench.about("words and la, li have its 32 bits");
        word("4294967294", -2);
        word("0x80000000", Integer.MIN_VALUE);
        Bench.dueWords("li $4,4294967295\nli $4,0xFFFF8000", 0x2404FFFF, 0x24048000);
        Bench bench = Bench.made("la $4,x+4294967295\n.data\n.word x+0xFFFFFFFE\nx:");
        bench.dueRelocation(0, 0, 0, 0, 5, 0, -1);
        bench.dueRelocation(0, 1, 0, 4, 6, 0, -1);
        bench.dueRelocation(0, 2, 1, 0, 2, 0, -2);
    }

    private static void strings() {
        Bench.about("STRINGS: bytes between two \", but \", \\, 10");
        Bench.dueData(".data\n.ascii \"\"", new int[0]);
        for (int from = 0; from < 256; from += 64) {
            StringBuilder text = new StringBuilder(".data\n.ascii \"");
            int[] due = new int[64];
            int many = 0;
            for (int c = from; c < from + 64; c++) {
                if (c != '"' && c != '\\' && c != 10) {
                    text.append((char) c);
                    due[many] = c;
                    many++;
                }
            }
            Bench.dueData(text + "\"", Arrays.copyOf(due, many));
        }
    }

    private static void escapesOfStrings() {
        Bench.about("and \\ with these");
        Bench.dueData(".data\n.ascii \"\\n\\t\\0\\\\\\'\\\"a\\n\"",
                10, 9, 0, '\\', '\'', '"', 'a', 10);
        for (int c = 0; c < 256; c++) {
            if ("nt0\\'\"".indexOf(c) < 0) {
                Bench.dueFault(".ascii \"a\\" + (char) c + "\"", Bench.BYTE, 1);
            }
        }
    }

    private static void unendedStrings() {
        Bench.about("STRINGS: bytes between two \"");
        String[] nones = {"\"", "\"a", "\"a\\\"", "\"\\", "\"a\n\"", "\"'", "\" #"};
        for (String none : nones) {
            fault(".ascii " + none, Bench.BYTE);
            fault(".asciiz \"x\", " + none, Bench.BYTE);
            fault("nop " + none, Bench.BYTE);
            fault(none, Bench.BYTE);
        }
    }

    private static void expressions() {
        Bench.about("EXPRESSIONS: a NUMBER; a NAME, perhaps + or - and a NUMBER");
        Bench bench = Bench.made(".data\n.word x,x+0,x+1,x-1,x+'a',x-0x7fff,x+4294967295\n"
                + ".word x-2147483648,x+2147483647,5,-5");
        int[] addends = {0, 0, 1, -1, 97, -0x7FFF, -1, Integer.MIN_VALUE, Integer.MAX_VALUE};
        Bench.due("relocations", bench.forge.count(3, 0), addends.length);
        for (int i = 0; i < addends.length; i++) {
            bench.dueRelocation(0, i, 1, 4 * i, 2, 0, addends[i]);
            Bench.due("field " + i, bench.wordOf(0, 1, 4 * i), 0);
        }
        Bench.due("5", bench.wordOf(0, 1, 36), 5);
        Bench.due("-5", bench.wordOf(0, 1, 40), -5);
        for (String none : new String[] {"", "+", "+1", "x+", "x-", "x+y", "x-$1", "x+1+1", "x+1-1",
            "1+1", "5-3", "1+x", "x y", "x 1", "(x)", "x+(1)", "\"x\"", "$1", "x:"}) {
            fault(".word " + none, Bench.OPERANDS);
            fault("lui $1,%hi(" + none + ")", Bench.OPERANDS);
        }
    }

    private static void expressionsWithoutSign() {
        Bench.about("and a NUMBER without a sign");
        for (String none : new String[] {"x+-1", "x - -1", "x++1", "x-+1"}) {
            fault(".word " + none, Bench.OPERANDS);
            fault("j " + none, Bench.OPERANDS);
            fault("la $1," + none, Bench.OPERANDS);
            fault("lui $1,%lo(" + none + ")", Bench.OPERANDS);
        }
    }

    private static void labels() {
        Bench.about("A LINE: any times a NAME and : (a LABEL); then nothing, or an OPERATION");
        Bench bench = Bench.made("a:\nb: c: d : e:jr $1\nnop: .word: add: jr $2");
        Bench.due("symbols", bench.forge.count(2, 0), 8);
        bench.dueSymbol(0, 4, "e", 0, 0, 0);
        bench.dueSymbol(0, 7, "add", 0, 4, 0);
        Bench.due("TEXT", bench.forge.size(0, 0), 8);
        for (String wrong : new String[] {":", "a::", "a: :", "1:", "$1:", "\"a\":", ",", "(", ")",
            "+", "-", "%", "5", "$1", "$f1", "\"a\"", "a: 5", "a: $1", "'a'"}) {
            fault(wrong, Bench.OPERANDS);
        }
        fault("a b: nop", Bench.OPERATION);
        fault("nop a:", Bench.OPERANDS);
        fault("nop nop", Bench.OPERANDS);
    }

    private static void commas() {
        Bench.about("and its OPERANDS, with , between.");
        for (String wrong : new String[] {"add $1 $2 $3", "add $1,$2 $3", "add $1 $2,$3",
            "add $1,,$2,$3", "add ,$1,$2,$3", "add $1,$2,$3,", "add $1,$2,,$3", "jr $1,", "jr ,$1",
            "nop ,", "lw $1 4($2)", "lw $1,4,($2)", "j ,x", "j x,", "bc1t 1 x", "bc1t ,x",
            "syscall ,", "syscall 1,", ".word 1 2", ".word 1,,2", ".word ,1", ".word 1,",
            ".byte 1 2", ".byte 1,", ".half ,", ".globl a b", ".globl a,", ".globl ,a",
            ".ascii \"a\" \"b\"", ".ascii \"a\",", ".asciiz ,\"a\"", ".space 1,", ".space ,1",
            ".align 1,1", ".text ,", "la $1 x", "li $1 5", "li $1,,5"}) {
            fault(wrong, Bench.OPERANDS);
        }
    }
}
