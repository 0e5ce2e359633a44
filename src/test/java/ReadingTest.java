/**
 * Where the document can be read in more than one way: how it is read here. Should it be made
 * clear otherwise, these rows go with what they say.
 */
public final class ReadingTest {
    public static void main(String[] args) {
        lettersBehindDigits();
        blanksBehindMinus();
        minusWithoutNumber();
        greatAddends();
        unendedOperands();
        namesAheadOfBrackets();
        rangeOfNumbersAsTold();
        flagsThatAreTooGreat();
        noCodeBehindSyscall();
        emptyLastBss();
        unevenTexts();
        faultsBehindClear();
        Bench.close("ReadingTest");
    }

    private static void fault(String line, int fault) {
        Bench.dueFault("\n" + line + "\n", fault, 2);
    }

    /** Letters right behind digits belong to a NUMBER or REGISTER that is none by them. */
    private static void lettersBehindDigits() {
        for (String text : new String[] {"12ab", "1a", "1f", "0X1", "0xg", "0x1g", "0x1.", "1_"}) {
            fault(".word " + text, Bench.BYTE);
        }
        for (String text : new String[] {"$1x", "$1.", "$2_", "$0v", "$f1x", "$f1."}) {
            fault("jr " + text, Bench.BYTE);
        }
    }

    private static void blanksBehindMinus() {
        Bench.dueWords(".word - 5\naddiu $1,$2,-\t4", -5, 0x2441FFFC);
        fault(".byte - 129", Bench.RANGE);
    }

    /** Where a NUMBER can stand, a - begins one; what is behind it does not make it another. */
    private static void minusWithoutNumber() {
        for (String text : new String[] {"-", "-x", "-$1", "--1", "-\"a\"", "-(5)", "-,"}) {
            fault(".word " + text, Bench.BYTE);
            fault("li $1," + text, Bench.BYTE);
            fault("syscall " + text, Bench.BYTE);
            fault("bc1t " + text, Bench.BYTE);
            fault("lw $1," + text, Bench.BYTE);
        }
        fault("lw $1,-($2)", Bench.BYTE);
    }

    /** A NUMBER without a sign is below 2^32, whatever stands ahead of it. */
    private static void greatAddends() {
        Bench bench = Bench.made(".data\n.word x-4294967295,x-2147483649");
        bench.dueRelocation(0, 0, 1, 0, 2, 0, 1);
        bench.dueRelocation(0, 1, 1, 4, 2, 0, Integer.MAX_VALUE);
    }

    /** An operand ends with its bracket: MANY comes behind it. */
    private static void unendedOperands() {
        StringBuilder full = new StringBuilder();
        for (int i = 0; i < 64; i++) {
            full.append('s').append(i).append(':');
        }
        fault(full + "lui $1,%hi(x", Bench.OPERANDS);
        fault(full + "lw $1,%lo(x)(@", Bench.BYTE);
    }

    /** A NAME as m is an operand by itself: what is behind it comes behind MANY, too. */
    private static void namesAheadOfBrackets() {
        fault("lw $1,x($2)", Bench.OPERANDS);
        Bench.dueFault(".space 4092\nlw $1,x($2)", Bench.MANY, 2);
    }

    /** A branch within TEXT asks its bounds of the number as told, not of 32 bits. */
    private static void rangeOfNumbersAsTold() {
        fault("x: b x+4294967292", Bench.RANGE);
        fault("x: b x-4294967292", Bench.RANGE);
    }

    /** A NUMBER where a k may stand is one, so that its bounds come first. */
    private static void flagsThatAreTooGreat() {
        fault("bc1t 8", Bench.RANGE);
        fault("bc1t -4", Bench.RANGE);
        fault("c.eq.s -1,$f5", Bench.RANGE);
    }

    /** What begins no NUMBER is no c: it stands behind a syscall without one, and behind MANY. */
    private static void noCodeBehindSyscall() {
        for (String rest : new String[] {"@", "x", "$1", ",", "\"5\"", "\"5", "+5", "(5)"}) {
            Bench.dueFault(".space 4096\nsyscall " + rest, Bench.MANY, 2);
        }
    }

    private static void dueSize(int due, String... texts) {
        Bench bench = new Bench();
        for (String text : texts) {
            bench.make(text);
        }
        Bench.due("link", bench.forge.link(0), due);
    }

    /** An empty BSS begins at a multiple of 8, too, and the image ends there. */
    private static void emptyLastBss() {
        dueSize(8, "nop");
        dueSize(8, ".data\n.byte 1");
        dueSize(16, ".data\n.byte 1", ".data\n.byte 1");
        dueSize(8, ".bss\n.space 1", "");
    }

    /** TEXTs follow each other without a gap, even if one has no multiple of 4 bytes. */
    private static void unevenTexts() {
        Bench bench = new Bench();
        bench.make(".byte 1,2,3");
        bench.make("x: .byte 4\n.data\ny: .byte 5");
        Bench.due("link", bench.forge.link(0), 16);
        Bench.due("word", bench.forge.word(0), 0x01020304);
        Bench.due("x", bench.forge.address(1, 0), 3);
        Bench.due("y", bench.forge.address(1, 1), 8);
        bench = new Bench();
        bench.make(".byte 1");
        bench.make(".word x+1\n.globl x\nx:");
        Bench.due("link", bench.forge.link(0x12345678), 8);
        Bench.due("first", bench.forge.word(0x12345678), 0x01123456);
        Bench.due("second", bench.forge.word(0x1234567C), 0x7E000000);
    }

    /** clear() is no assemble() and no link(): their faults stay. */
    private static void faultsBehindClear() {
        Bench bench = new Bench();
        bench.make("nop\nj u");
        bench.forge.link(0);
        bench.make("\nfoo");
        Bench.due("clear", bench.forge.clear(), 1);
        int[] due = {2, 2, 2, 0, 0};
        for (int what = 0; what < due.length; what++) {
            Bench.due("fault " + what, bench.forge.fault(what), due[what]);
        }
    }
}
