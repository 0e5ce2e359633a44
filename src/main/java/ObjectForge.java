import java.util.Arrays;

/**
 * An assembler and a linker for MIPS32: texts of lines become objects of sections, symbols and
 * relocations; objects are joined and become an image of words.
 */
public final class ObjectForge {
    /** Nothing there. */
    public static final int NONE = -1;

    private static final int TEXT_LIMIT = 8192;
    private static final int OBJECT_LIMIT = 8;
    private static final int SECTION_LIMIT = 4096;
    private static final int IMAGE_LIMIT = 32768;
    private static final int SYMBOL_LIMIT = 64;
    private static final int NAME_LIMIT = 24;
    private static final int RELOCATION_LIMIT = 256;

    private static final int TEXT = 0;
    private static final int DATA = 1;
    private static final int BSS = 2;
    private static final int SECTIONS = 3;

    private static final int KIND_WORD = 2;
    private static final int KIND_JUMP = 4;
    private static final int KIND_HIGH = 5;
    private static final int KIND_LOW = 6;
    private static final int KIND_BRANCH = 10;

    private final Assembler assembler = new Assembler();
    private final Linker linker = new Linker();
    private final Unit[] units = new Unit[OBJECT_LIMIT];
    private int unitCount = 0;

    /** No text, no objects, no image. */
    public ObjectForge() {
        for (int i = 0; i < OBJECT_LIMIT; i++) {
            units[i] = new Unit();
        }
    }

    /** Sixteen bytes more of the text, the highest of a first: how many there are. */
    public int feed(int a, int b, int c, int d) throws IllegalStateException {
        Source source = assembler.source;
        if (source.length + 16 > TEXT_LIMIT) {
            throw new IllegalStateException("the text is full");
        }
        source.appendWord(a);
        source.appendWord(b);
        source.appendWord(c);
        source.appendWord(d);
        return source.length;
    }

    /** The last n bytes go again: how many are left. */
    public int end(int n) throws IllegalArgumentException {
        Source source = assembler.source;
        if (n < 0 || n > 15 || n > source.length) {
            throw new IllegalArgumentException("not 0 to 15, or not so many");
        }
        source.length -= n;
        return source.length;
    }

    /** The text, used up, becomes an object: its number, NONE at a fault. */
    public int assemble() throws IllegalStateException {
        int length = assembler.source.length;
        assembler.source.length = 0;
        if (unitCount >= OBJECT_LIMIT) {
            throw new IllegalStateException("there are 8 objects");
        }
        if (!assembler.translate(length)) {
            return NONE;
        }
        Unit made = assembler.draft;
        assembler.draft = units[unitCount];
        units[unitCount] = made;
        unitCount++;
        return unitCount - 1;
    }

    /** Of the latest assemble() and link() what was wrong, and where. */
    public int fault(int what) throws IndexOutOfBoundsException {
        switch (what) {
            case 0:
                return assembler.fault;
            case 1:
                return assembler.faultLine;
            case 2:
                return linker.fault;
            case 3:
                return linker.faultObject;
            case 4:
                return linker.faultItem;
            default:
                throw new IndexOutOfBoundsException("what is not 0 to 4");
        }
    }

    /** How many bytes a section of an object has. */
    public int size(int object, int section) throws IndexOutOfBoundsException {
        Unit unit = unitNumbered(object);
        requireBelow(section, SECTIONS);
        return unit.sizes[section];
    }

    /** Byte k of TEXT or DATA of an object. */
    public int byteAt(int object, int section, int k) throws IndexOutOfBoundsException {
        Unit unit = unitNumbered(object);
        requireBelow(section, BSS);
        requireBelow(k, unit.sizes[section]);
        return unit.bytes[section][k] & 255;
    }

    /** Of symbol k of an object: its section, value, whether it is GLOBAL, its name's length. */
    public int symbol(int object, int k, int what) throws IndexOutOfBoundsException {
        Symbols symbols = unitNumbered(object).symbols;
        requireBelow(k, symbols.number);
        switch (what) {
            case 0:
                return symbols.sections[k];
            case 1:
                return symbols.values[k];
            case 2:
                return symbols.globals[k] ? 1 : 0;
            case 3:
                return symbols.lengths[k];
            default:
                throw new IndexOutOfBoundsException("what is not 0 to 3");
        }
    }

    /** Byte i of the name of symbol k. */
    public int letter(int object, int k, int i) throws IndexOutOfBoundsException {
        Symbols symbols = unitNumbered(object).symbols;
        requireBelow(k, symbols.number);
        requireBelow(i, symbols.lengths[k]);
        return symbols.names[k * NAME_LIMIT + i] & 255;
    }

    /** Of relocation k of an object: section, place, kind, symbol, addend. */
    public int relocation(int object, int k, int what) throws IndexOutOfBoundsException {
        Relocations relocations = unitNumbered(object).relocations;
        requireBelow(k, relocations.number);
        switch (what) {
            case 0:
                return relocations.sections[k];
            case 1:
                return relocations.places[k];
            case 2:
                return relocations.kinds[k];
            case 3:
                return relocations.symbols[k];
            case 4:
                return (int) relocations.addends[k];
            default:
                throw new IndexOutOfBoundsException("what is not 0 to 4");
        }
    }

    /** Links all objects at a base: how many bytes the image has; NONE at a fault. */
    public int link(int base) throws IllegalArgumentException, IllegalStateException {
        if ((base & 7) != 0) {
            throw new IllegalArgumentException("the base is no multiple of 8");
        }
        if (unitCount == 0) {
            throw new IllegalStateException("there are no objects");
        }
        return linker.join(units, unitCount, base);
    }

    /** The word at an address of the image. */
    public int word(int address) throws IndexOutOfBoundsException {
        if (!linker.holdsWord(address)) {
            throw new IndexOutOfBoundsException("no word of the image");
        }
        return linker.wordFrom(address);
    }

    /** The address of symbol k of an object in the image. */
    public int address(int object, int k)
            throws IndexOutOfBoundsException, IllegalStateException {
        Symbols symbols = unitNumbered(object).symbols;
        requireBelow(k, symbols.number);
        if (object >= linker.joined) {
            throw new IllegalStateException("no image, or the object came behind it");
        }
        return symbols.addresses[k];
    }

    /** No objects, no image: how many objects there were. */
    public int clear() {
        int before = unitCount;
        unitCount = 0;
        linker.dropImage();
        return before;
    }

    /** Bytes of the text, objects; of object n symbols, relocations. */
    public int count(int what, int n) throws IndexOutOfBoundsException {
        switch (what) {
            case 0:
                return assembler.source.length;
            case 1:
                return unitCount;
            case 2:
                return unitNumbered(n).symbols.number;
            case 3:
                return unitNumbered(n).relocations.number;
            default:
                throw new IndexOutOfBoundsException("what is not 0 to 3");
        }
    }

    private Unit unitNumbered(int object) {
        requireBelow(object, unitCount);
        return units[object];
    }

    private static void requireBelow(int index, int bound) {
        if (index < 0 || index >= bound) {
            throw new IndexOutOfBoundsException("there is no such");
        }
    }

    /** The 16 bits that a HIGH or a LOW half has of a value. */
    private static int halfOf(int kind, int value) {
        return kind == KIND_HIGH ? (value + 0x8000) >>> 16 : value & 0xFFFF;
    }

    /**
     * The operations of TEXT. The letters of the operands are those of the document; further ones:
     * b a register for rd and rt both, q a k of a comparison, n a number of 32 bits, A an address
     * that two instructions make. With a first instruction (lead), s and t are its fields, all
     * others those of the second one.
     */
    private enum Operation {
        // d,s,t.
        ADDU("addu", "dst", 0x00000021),
        SUBU("subu", "dst", 0x00000023),
        ADD("add", "dst", 0x00000020),
        SUB("sub", "dst", 0x00000022),
        AND("and", "dst", 0x00000024),
        OR("or", "dst", 0x00000025),
        XOR("xor", "dst", 0x00000026),
        NOR("nor", "dst", 0x00000027),
        SLT("slt", "dst", 0x0000002A),
        SLTU("sltu", "dst", 0x0000002B),
        MOVZ("movz", "dst", 0x0000000A),
        MOVN("movn", "dst", 0x0000000B),
        MUL("mul", "dst", 0x70000002),
        // d,t,h and d,t,s.
        SLL("sll", "dth", 0x00000000),
        SRL("srl", "dth", 0x00000002),
        SRA("sra", "dth", 0x00000003),
        SLLV("sllv", "dts", 0x00000004),
        SRLV("srlv", "dts", 0x00000006),
        SRAV("srav", "dts", 0x00000007),
        // s,t.
        MULT("mult", "st", 0x00000018),
        MULTU("multu", "st", 0x00000019),
        DIV("div", "st", 0x0000001A),
        DIVU("divu", "st", 0x0000001B),
        MADD("madd", "st", 0x70000000),
        MADDU("maddu", "st", 0x70000001),
        MSUB("msub", "st", 0x70000004),
        MSUBU("msubu", "st", 0x70000005),
        TEQ("teq", "st", 0x00000034),
        TNE("tne", "st", 0x00000036),
        TGE("tge", "st", 0x00000030),
        TGEU("tgeu", "st", 0x00000031),
        TLT("tlt", "st", 0x00000032),
        TLTU("tltu", "st", 0x00000033),
        // One or two registers.
        MFHI("mfhi", "d", 0x00000010),
        MFLO("mflo", "d", 0x00000012),
        MTHI("mthi", "s", 0x00000011),
        MTLO("mtlo", "s", 0x00000013),
        JR("jr", "s", 0x00000008),
        CLZ("clz", "bs", 0x70000020),
        CLO("clo", "bs", 0x70000021),
        JALR("jalr", "ds", 0x00000009),
        // Numbers of sixteen bits.
        ADDIU("addiu", "tsi", 0x24000000),
        ADDI("addi", "tsi", 0x20000000),
        SLTI("slti", "tsi", 0x28000000),
        SLTIU("sltiu", "tsi", 0x2C000000),
        ANDI("andi", "tsu", 0x30000000),
        ORI("ori", "tsu", 0x34000000),
        XORI("xori", "tsu", 0x38000000),
        LUI("lui", "tu", 0x3C000000),
        // Memory.
        LB("lb", "tm", 0x80000000),
        LBU("lbu", "tm", 0x90000000),
        LH("lh", "tm", 0x84000000),
        LHU("lhu", "tm", 0x94000000),
        LW("lw", "tm", 0x8C000000),
        LWL("lwl", "tm", 0x88000000),
        LWR("lwr", "tm", 0x98000000),
        SB("sb", "tm", 0xA0000000),
        SH("sh", "tm", 0xA4000000),
        SW("sw", "tm", 0xAC000000),
        SWL("swl", "tm", 0xA8000000),
        SWR("swr", "tm", 0xB8000000),
        LL("ll", "tm", 0xC0000000),
        SC("sc", "tm", 0xE0000000),
        LWC1("lwc1", "Tm", 0xC4000000),
        SWC1("swc1", "Tm", 0xE4000000),
        LDC1("ldc1", "Tm", 0xD4000000),
        SDC1("sdc1", "Tm", 0xF4000000),
        // Branches and jumps.
        BEQ("beq", "stL", 0x10000000),
        BNE("bne", "stL", 0x14000000),
        BEQL("beql", "stL", 0x50000000),
        BNEL("bnel", "stL", 0x54000000),
        BLEZ("blez", "sL", 0x18000000),
        BGTZ("bgtz", "sL", 0x1C000000),
        BLTZ("bltz", "sL", 0x04000000),
        BGEZ("bgez", "sL", 0x04010000),
        BLTZAL("bltzal", "sL", 0x04100000),
        BGEZAL("bgezal", "sL", 0x04110000),
        BLEZL("blezl", "sL", 0x58000000),
        BGTZL("bgtzl", "sL", 0x5C000000),
        BLTZL("bltzl", "sL", 0x04020000),
        BGEZL("bgezl", "sL", 0x04030000),
        BC1F("bc1f", "kL", 0x45000000),
        BC1T("bc1t", "kL", 0x45010000),
        BC1FL("bc1fl", "kL", 0x45020000),
        BC1TL("bc1tl", "kL", 0x45030000),
        J("j", "J", 0x08000000),
        JAL("jal", "J", 0x0C000000),
        // Moves to and from fractions, and what has no register.
        MFC1("mfc1", "tS", 0x44000000),
        MTC1("mtc1", "tS", 0x44800000),
        NOP("nop", "", 0x00000000),
        SYNC("sync", "", 0x0000000F),
        SYSCALL("syscall", "c", 0x0000000C),
        BREAK("break", "c", 0x0000000D),
        // Fractions.
        ADD_S("add.s", "DST", 0x46000000),
        ADD_D("add.d", "DST", 0x46200000),
        SUB_S("sub.s", "DST", 0x46000001),
        SUB_D("sub.d", "DST", 0x46200001),
        MUL_S("mul.s", "DST", 0x46000002),
        MUL_D("mul.d", "DST", 0x46200002),
        DIV_S("div.s", "DST", 0x46000003),
        DIV_D("div.d", "DST", 0x46200003),
        ABS_S("abs.s", "DS", 0x46000005),
        ABS_D("abs.d", "DS", 0x46200005),
        NEG_S("neg.s", "DS", 0x46000007),
        NEG_D("neg.d", "DS", 0x46200007),
        MOV_S("mov.s", "DS", 0x46000006),
        MOV_D("mov.d", "DS", 0x46200006),
        SQRT_S("sqrt.s", "DS", 0x46000004),
        SQRT_D("sqrt.d", "DS", 0x46200004),
        TRUNC_W_S("trunc.w.s", "DS", 0x4600000D),
        TRUNC_W_D("trunc.w.d", "DS", 0x4620000D),
        ROUND_W_S("round.w.s", "DS", 0x4600000C),
        ROUND_W_D("round.w.d", "DS", 0x4620000C),
        CEIL_W_S("ceil.w.s", "DS", 0x4600000E),
        CEIL_W_D("ceil.w.d", "DS", 0x4620000E),
        FLOOR_W_S("floor.w.s", "DS", 0x4600000F),
        FLOOR_W_D("floor.w.d", "DS", 0x4620000F),
        CVT_W_S("cvt.w.s", "DS", 0x46000024),
        CVT_W_D("cvt.w.d", "DS", 0x46200024),
        CVT_S_D("cvt.s.d", "DS", 0x46200020),
        CVT_S_W("cvt.s.w", "DS", 0x46800020),
        CVT_D_S("cvt.d.s", "DS", 0x46000021),
        CVT_D_W("cvt.d.w", "DS", 0x46800021),
        // Comparisons of fractions.
        C_F_S("c.f.s", "qST", 0x46000030),
        C_F_D("c.f.d", "qST", 0x46200030),
        C_UN_S("c.un.s", "qST", 0x46000031),
        C_UN_D("c.un.d", "qST", 0x46200031),
        C_EQ_S("c.eq.s", "qST", 0x46000032),
        C_EQ_D("c.eq.d", "qST", 0x46200032),
        C_UEQ_S("c.ueq.s", "qST", 0x46000033),
        C_UEQ_D("c.ueq.d", "qST", 0x46200033),
        C_OLT_S("c.olt.s", "qST", 0x46000034),
        C_OLT_D("c.olt.d", "qST", 0x46200034),
        C_ULT_S("c.ult.s", "qST", 0x46000035),
        C_ULT_D("c.ult.d", "qST", 0x46200035),
        C_OLE_S("c.ole.s", "qST", 0x46000036),
        C_OLE_D("c.ole.d", "qST", 0x46200036),
        C_ULE_S("c.ule.s", "qST", 0x46000037),
        C_ULE_D("c.ule.d", "qST", 0x46200037),
        C_SF_S("c.sf.s", "qST", 0x46000038),
        C_SF_D("c.sf.d", "qST", 0x46200038),
        C_NGLE_S("c.ngle.s", "qST", 0x46000039),
        C_NGLE_D("c.ngle.d", "qST", 0x46200039),
        C_SEQ_S("c.seq.s", "qST", 0x4600003A),
        C_SEQ_D("c.seq.d", "qST", 0x4620003A),
        C_NGL_S("c.ngl.s", "qST", 0x4600003B),
        C_NGL_D("c.ngl.d", "qST", 0x4620003B),
        C_LT_S("c.lt.s", "qST", 0x4600003C),
        C_LT_D("c.lt.d", "qST", 0x4620003C),
        C_NGE_S("c.nge.s", "qST", 0x4600003D),
        C_NGE_D("c.nge.d", "qST", 0x4620003D),
        C_LE_S("c.le.s", "qST", 0x4600003E),
        C_LE_D("c.le.d", "qST", 0x4620003E),
        C_NGT_S("c.ngt.s", "qST", 0x4600003F),
        C_NGT_D("c.ngt.d", "qST", 0x4620003F),
        // Written out as one instruction.
        MOVE("move", "ds", 0x00000021),
        NOT("not", "ds", 0x00000027),
        NEG("neg", "dt", 0x00000023),
        JALR_ALONE("jalr", "s", 0x0000F809),
        B("b", "L", 0x10000000),
        BAL("bal", "L", 0x04110000),
        BEQZ("beqz", "sL", 0x10000000),
        BNEZ("bnez", "sL", 0x14000000),
        // Written out as one or two: LI and LA have ways of their own.
        LI("li", "tn", 0x00000000),
        LA("la", "tA", 0x24000000),
        // Written out as two: the last number is the first instruction.
        BLT("blt", "stL", 0x14200000, 0x0000082A),
        BGE("bge", "stL", 0x10200000, 0x0000082A),
        BGT("bgt", "tsL", 0x14200000, 0x0000082A),
        BLE("ble", "tsL", 0x10200000, 0x0000082A),
        BLTU("bltu", "stL", 0x14200000, 0x0000082B),
        BGEU("bgeu", "stL", 0x10200000, 0x0000082B),
        BGTU("bgtu", "tsL", 0x14200000, 0x0000082B),
        BLEU("bleu", "tsL", 0x10200000, 0x0000082B),
        DIV_INTO("div", "dst", 0x00000012, 0x0000001A),
        DIVU_INTO("divu", "dst", 0x00000012, 0x0000001B),
        REM("rem", "dst", 0x00000010, 0x0000001A),
        REMU("remu", "dst", 0x00000010, 0x0000001B);

        private static final Operation[] ALL = values();

        final String spelling;
        final String operands;
        final int code;
        final int lead;

        Operation(String spelling, String operands, int code) {
            this(spelling, operands, code, 0);
        }

        Operation(String spelling, String operands, int code, int lead) {
            this.spelling = spelling;
            this.operands = operands;
            this.code = code;
            this.lead = lead;
        }

        /** The operation that a token names, without regard to its operands; null if none. */
        static Operation named(Source source, int token) {
            int length = source.valueOf(token);
            for (int i = 0; i < ALL.length; i++) {
                if (ALL[i].spelling.length() == length
                        && source.spells(token, ALL[i].spelling)) {
                    return ALL[i];
                }
            }
            return null;
        }

        /** Three names stand for two operations each; a comma behind the fewer operands tells. */
        Operation ofOperands(Source source, int first) {
            if (this == JALR && source.kindOf(first + 1) != ',') {
                return JALR_ALONE;
            }
            if (this == DIV && source.kindOf(first + 3) == ',') {
                return DIV_INTO;
            }
            if (this == DIVU && source.kindOf(first + 3) == ',') {
                return DIVU_INTO;
            }
            return this;
        }
    }

    /**
     * The directives: the section that one begins (NONE without), how many bytes each of its
     * numbers has (its place is a multiple of that), whether it tells bytes, as BSS has none, and
     * whether it takes several operands.
     */
    private enum Directive {
        TEXT_FROM_NOW(".text", TEXT, 1, false, false),
        DATA_FROM_NOW(".data", DATA, 1, false, false),
        BSS_FROM_NOW(".bss", BSS, 1, false, false),
        GLOBL(".globl", NONE, 1, false, true),
        WORD(".word", NONE, 4, true, true),
        HALF(".half", NONE, 2, true, true),
        BYTE(".byte", NONE, 1, true, true),
        SPACE(".space", NONE, 1, false, false),
        ALIGN(".align", NONE, 1, false, false),
        ASCII(".ascii", NONE, 1, true, true),
        ASCIIZ(".asciiz", NONE, 1, true, true);

        private static final Directive[] ALL = values();

        final String spelling;
        final int section;
        final int width;
        final boolean tellsBytes;
        final boolean isList;

        Directive(String spelling, int section, int width, boolean tellsBytes, boolean isList) {
            this.spelling = spelling;
            this.section = section;
            this.width = width;
            this.tellsBytes = tellsBytes;
            this.isList = isList;
        }

        static Directive named(Source source, int token) {
            for (int i = 0; i < ALL.length; i++) {
                if (source.spells(token, ALL[i].spelling)) {
                    return ALL[i];
                }
            }
            return null;
        }
    }

    /** The text, and the tokens of one of its lines. */
    private static final class Source {
        static final int END = 0;
        static final int BAD = 1;
        static final int NAME = 2;
        static final int NUMBER = 3;
        static final int STRING = 4;
        static final int REGISTER = 5;
        static final int FRACTION = 6;

        private static final String PUNCTUATION = ",:()+-%";
        private static final String REGISTER_NAMES =
                "atv0v1a0a1a2a3t0t1t2t3t4t5t6t7s0s1s2s3s4s5s6s7t8t9k0k1gpspfpra";

        final byte[] bytes = new byte[TEXT_LIMIT];
        int length = 0;
        // A token's kind is one of those above, or its own byte; its value is the number that it
        // tells, or how many bytes a NAME or STRING has.
        private final int[] kinds = new int[TEXT_LIMIT];
        private final int[] starts = new int[TEXT_LIMIT];
        private final int[] values = new int[TEXT_LIMIT];
        private int tokens = 0;
        private int lineEnd = 0;

        void appendWord(int word) {
            for (int shift = 24; shift >= 0 && length < TEXT_LIMIT; shift -= 8) {
                bytes[length] = (byte) (word >>> shift);
                length++;
            }
        }

        /** Makes tokens of the line from a place on, up to the first one that is BAD: its end. */
        int scanLine(int from, int textEnd) {
            tokens = 0;
            lineEnd = from;
            while (lineEnd < textEnd && lineEnd < TEXT_LIMIT && bytes[lineEnd] != 10) {
                lineEnd++;
            }
            int at = from;
            while (at < lineEnd) {
                at = Math.max(at + 1, scanToken(at));
            }
            return lineEnd;
        }

        int kindOf(int token) {
            return token >= 0 && token < tokens ? kinds[token] : END;
        }

        int startOf(int token) {
            return token >= 0 && token < tokens ? starts[token] : 0;
        }

        int valueOf(int token) {
            return token >= 0 && token < tokens ? values[token] : 0;
        }

        /** The number that a token tells: 0 .. 2^32 - 1. */
        long numberOf(int token) {
            return token >= 0 && token < tokens ? values[token] & 0xFFFFFFFFL : 0;
        }

        /** Whether a token is the beginning of a NUMBER, even of one that is none. */
        boolean beginsNumber(int token) {
            int kind = kindOf(token);
            int first = byteOrNone(startOf(token));
            return kind == NUMBER || kind == '-'
                    || kind == BAD && (isDigit(first) || first == '\'');
        }

        boolean spells(int token, String spelling) {
            int size = spelling.length();
            if (kindOf(token) != NAME || valueOf(token) != size) {
                return false;
            }
            int start = startOf(token);
            for (int i = 0; i < size; i++) {
                if (byteOrNone(start + i) != spelling.charAt(i)) {
                    return false;
                }
            }
            return true;
        }

        /** The byte of the line at a place, NONE behind its end. */
        int byteOrNone(int at) {
            return at >= 0 && at < lineEnd ? bytes[at] & 255 : NONE;
        }

        /** The byte that stands for a \ and the byte at a place, NONE if there is no such. */
        int escapeAt(int at) {
            int named = byteOrNone(at);
            switch (named) {
                case 'n':
                    return 10;
                case 't':
                    return 9;
                case '0':
                    return 0;
                case '\\':
                case '\'':
                case '"':
                    return named;
                default:
                    return NONE;
            }
        }

        private int scanToken(int at) {
            int first = byteOrNone(at);
            if (first == 32 || first == 9) {
                return at + 1;
            }
            if (first == '#') {
                return lineEnd;
            }
            if (isDigit(first)) {
                return scanNumber(at);
            }
            if (isNameByte(first)) {
                int size = runEnd(at) - at;
                return size > NAME_LIMIT ? bad(at) : accept(NAME, at, size, at + size);
            }
            switch (first) {
                case '$':
                    return scanRegister(at);
                case '\'':
                    return scanCharacter(at);
                case '"':
                    return scanString(at);
                default:
                    return PUNCTUATION.indexOf((char) first) >= 0
                            ? accept(first, at, 0, at + 1) : bad(at);
            }
        }

        private int accept(int kind, int start, int value, int behind) {
            if (tokens < TEXT_LIMIT) {
                kinds[tokens] = kind;
                starts[tokens] = start;
                values[tokens] = value;
                tokens++;
            }
            return behind;
        }

        /** What stands behind a BAD token is never looked at: its fault is the line's, at least. */
        private int bad(int at) {
            return accept(BAD, at, 0, lineEnd);
        }

        private static boolean isDigit(int c) {
            return c >= '0' && c <= '9';
        }

        private static boolean isNameByte(int c) {
            return c >= 'A' && c <= 'Z' || c >= 'a' && c <= 'z' || c == '_' || c == '.'
                    || isDigit(c);
        }

        private int runEnd(int from) {
            int at = from;
            while (at < lineEnd && isNameByte(byteOrNone(at))) {
                at++;
            }
            return at;
        }

        /** Letters right behind digits belong to the NUMBER, which is none by them. */
        private int scanNumber(int at) {
            int behind = runEnd(at);
            boolean sixteen = byteOrNone(at) == '0' && byteOrNone(at + 1) == 'x';
            int from = sixteen ? at + 2 : at;
            int radix = sixteen ? 16 : 10;
            long value = 0;
            if (from == behind) {
                return bad(at);
            }
            for (int i = from; i < behind; i++) {
                int digit = digitOf(byteOrNone(i));
                value = value * radix + digit;
                if (digit < 0 || digit >= radix || value > 0xFFFFFFFFL) {
                    return bad(at);
                }
            }
            return accept(NUMBER, at, (int) value, behind);
        }

        private static int digitOf(int c) {
            if (c >= '0' && c <= '9') {
                return c - '0';
            }
            if (c >= 'a' && c <= 'f') {
                return c - 'a' + 10;
            }
            return c >= 'A' && c <= 'F' ? c - 'A' + 10 : NONE;
        }

        private int scanCharacter(int at) {
            int value = byteOrNone(at + 1);
            int behind = at + 2;
            if (value == '\'') {
                return bad(at);
            }
            if (value == '\\') {
                value = escapeAt(at + 2);
                behind = at + 3;
            }
            if (value < 0 || byteOrNone(behind) != '\'') {
                return bad(at);
            }
            return accept(NUMBER, at, value, behind + 1);
        }

        private int scanString(int at) {
            for (int i = at + 1; i < lineEnd; i++) {
                int c = byteOrNone(i);
                if (c == '"') {
                    return accept(STRING, at + 1, i - at - 1, i + 1);
                }
                if (c == '\\') {
                    i++;
                    if (escapeAt(i) < 0) {
                        return bad(at);
                    }
                }
            }
            return bad(at);
        }

        private int scanRegister(int at) {
            int behind = runEnd(at + 1);
            boolean fraction = byteOrNone(at + 1) == 'f' && isDigit(byteOrNone(at + 2));
            int number = fraction ? registerDigits(at + 2, behind) : registerNumber(at + 1, behind);
            if (number < 0) {
                return bad(at);
            }
            return accept(fraction ? FRACTION : REGISTER, at, number, behind);
        }

        private int registerDigits(int from, int to) {
            int first = byteOrNone(from);
            int second = byteOrNone(from + 1);
            if (to - from == 1 && isDigit(first)) {
                return first - '0';
            }
            if (to - from != 2 || !isDigit(first) || !isDigit(second) || first == '0') {
                return NONE;
            }
            int number = (first - '0') * 10 + second - '0';
            return number < 32 ? number : NONE;
        }

        private int registerNumber(int from, int to) {
            int first = byteOrNone(from);
            int second = byteOrNone(from + 1);
            if (isDigit(first)) {
                return registerDigits(from, to);
            }
            if (to - from == 4 && first == 'z' && second == 'e'
                    && byteOrNone(from + 2) == 'r' && byteOrNone(from + 3) == 'o') {
                return 0;
            }
            if (to - from != 2) {
                return NONE;
            }
            if (first == 's' && second == '8') {
                return 30;
            }
            for (int i = 0; i + 1 < REGISTER_NAMES.length(); i += 2) {
                if (first == REGISTER_NAMES.charAt(i) && second == REGISTER_NAMES.charAt(i + 1)) {
                    return i / 2 + 1;
                }
            }
            return NONE;
        }
    }

    /** The symbols of an object, and their addresses in the latest image that it is in. */
    private static final class Symbols {
        final byte[] names = new byte[SYMBOL_LIMIT * NAME_LIMIT];
        final int[] lengths = new int[SYMBOL_LIMIT];
        final int[] sections = new int[SYMBOL_LIMIT];
        final int[] values = new int[SYMBOL_LIMIT];
        final boolean[] globals = new boolean[SYMBOL_LIMIT];
        final int[] addresses = new int[SYMBOL_LIMIT];
        // A sum over each name, so that most unlike names are told apart by one comparison.
        private final int[] sums = new int[SYMBOL_LIMIT];
        int number = 0;

        /** The symbol that bytes of a text name, a new one if need be; NONE if that is too many. */
        int numbered(byte[] text, int start, int length) {
            if (start < 0 || length < 0 || length > NAME_LIMIT || start > text.length - length) {
                return NONE;
            }
            int sum = length;
            for (int i = 0; i < length; i++) {
                sum = sum * 31 + text[start + i];
            }
            for (int k = 0; k < number; k++) {
                if (sums[k] == sum && isNamed(k, text, start, length)) {
                    return k;
                }
            }
            if (number >= SYMBOL_LIMIT) {
                return NONE;
            }
            System.arraycopy(text, start, names, number * NAME_LIMIT, length);
            lengths[number] = length;
            sections[number] = NONE;
            values[number] = 0;
            globals[number] = false;
            sums[number] = sum;
            number++;
            return number - 1;
        }

        private boolean isNamed(int k, byte[] text, int start, int length) {
            if (lengths[k] != length) {
                return false;
            }
            for (int i = 0; i < length; i++) {
                if (names[k * NAME_LIMIT + i] != text[start + i]) {
                    return false;
                }
            }
            return true;
        }

        /** The symbol here that others find by the name of symbol j over there; NONE if none. */
        int offered(Symbols other, int j) {
            for (int k = 0; k < number; k++) {
                if (sums[k] == other.sums[j] && isOffered(k)
                        && isNamed(k, other.names, j * NAME_LIMIT, other.lengths[j])) {
                    return k;
                }
            }
            return NONE;
        }

        boolean isOffered(int k) {
            return globals[k] && sections[k] != NONE;
        }
    }

    /** The relocations of an object; while it is made, all of its branches too. */
    private static final class Relocations {
        final int[] sections = new int[RELOCATION_LIMIT];
        final int[] places = new int[RELOCATION_LIMIT];
        final int[] kinds = new int[RELOCATION_LIMIT];
        final int[] symbols = new int[RELOCATION_LIMIT];
        // As told, since a branch's bounds are asked of more than 32 bits.
        final long[] addends = new long[RELOCATION_LIMIT];
        // Asked for branches within TEXT alone, so not kept up with the others behind them.
        final int[] lines = new int[RELOCATION_LIMIT];
        int number = 0;

        void move(int from, int to) {
            sections[to] = sections[from];
            places[to] = places[from];
            kinds[to] = kinds[from];
            symbols[to] = symbols[from];
            addends[to] = addends[from];
        }
    }

    /** An object. */
    private static final class Unit {
        final byte[][] bytes = new byte[BSS][SECTION_LIMIT];
        final int[] sizes = new int[SECTIONS];
        // Where the sections begin in the image, counted from its base.
        final int[] starts = new int[SECTIONS];
        final Symbols symbols = new Symbols();
        final Relocations relocations = new Relocations();

        void makeEmpty() {
            Arrays.fill(sizes, 0);
            symbols.number = 0;
            relocations.number = 0;
        }

        /** The lowest bytes of a value, the highest first; false if there is no room. */
        boolean append(int section, int value, int width) {
            int at = sizes[section];
            if (width > SECTION_LIMIT - at) {
                return false;
            }
            for (int i = 0; i < width && section < BSS; i++) {
                bytes[section][at + i] = (byte) (value >>> (8 * (width - 1 - i)));
            }
            sizes[section] = at + width;
            return true;
        }

        boolean appendZeros(int section, int many) {
            int at = sizes[section];
            if (many > SECTION_LIMIT - at) {
                return false;
            }
            if (section < BSS) {
                Arrays.fill(bytes[section], at, at + many, (byte) 0);
            }
            sizes[section] = at + many;
            return true;
        }
    }

    /** Makes an object of a text, line by line. */
    private static final class Assembler {
        private static final int FAULT_BYTE = 1;
        private static final int FAULT_OPERATION = 2;
        private static final int FAULT_OPERANDS = 3;
        private static final int FAULT_RANGE = 4;
        private static final int FAULT_TWICE = 5;
        private static final int FAULT_PLACE = 6;
        private static final int FAULT_MANY = 7;

        private static final int WITH_NUMBER = 1;
        private static final int WITH_NAME = 2;
        private static final int WITH_LOW = 4;
        private static final int WITH_HIGH = 8;

        private static final String REGISTER_LETTERS = "dstbDST";
        private static final long LOWEST_NUMBER = -0x80000000L;

        private static final int ADDIU = 0x24000000;
        private static final int ORI = 0x34000000;
        private static final int LUI = 0x3C000000;

        final Source source = new Source();
        Unit draft = new Unit();
        int fault = 0;
        int faultLine = 0;

        private int line = 0;
        private int section = TEXT;
        private int cursor = 0;

        // Of the operand read last: its NAME's token (NONE without), its number, %hi or %lo.
        private int nameToken = NONE;
        private long number = 0;
        private int half = 0;

        // Of an instruction: the fields rs and rt, all other ones, what its NAME is needed for
        // (0 nothing), and the register that holds the upper half of an address (NONE without).
        private int sources = 0;
        private int others = 0;
        private int reference = 0;
        private int upperHolder = NONE;
        private int symbolNumber = NONE;

        /** Makes the draft of the text: whether it has no fault. */
        boolean translate(int length) {
            draft.makeEmpty();
            section = TEXT;
            fault = 0;
            faultLine = 0;
            line = 0;
            int from = 0;
            for (int i = 0; i <= TEXT_LIMIT && from <= length && fault == 0; i++) {
                line++;
                from = source.scanLine(from, length) + 1;
                cursor = 0;
                readLabels();
                if (fault == 0) {
                    readStatement();
                }
            }
            if (fault == 0) {
                settleBranches();
            }
            if (fault != 0) {
                faultLine = line;
            }
            return fault == 0;
        }

        private void readLabels() {
            for (int i = 0; i < TEXT_LIMIT && fault == 0; i++) {
                if (source.kindOf(cursor) != Source.NAME || source.kindOf(cursor + 1) != ':') {
                    return;
                }
                int k = numberSymbol(cursor);
                cursor += 2;
                if (k != NONE && draft.symbols.sections[k] != NONE) {
                    fault = FAULT_TWICE;
                } else if (k != NONE) {
                    draft.symbols.sections[k] = section;
                    draft.symbols.values[k] = draft.sizes[section];
                }
            }
        }

        /** The symbol that a NAME is; NONE, and the fault, when it is one too many. */
        private int numberSymbol(int token) {
            int k = draft.symbols.numbered(
                    source.bytes, source.startOf(token), source.valueOf(token));
            if (k == NONE) {
                fault = FAULT_MANY;
            }
            return k;
        }

        private void readStatement() {
            int kind = source.kindOf(cursor);
            if (kind != Source.NAME) {
                fault = kind == Source.END ? 0 : misplaced(kind);
                return;
            }
            Directive directive = Directive.named(source, cursor);
            Operation operation = directive == null ? Operation.named(source, cursor) : null;
            cursor++;
            if (directive != null) {
                readDirective(directive);
            } else if (operation != null) {
                readInstruction(operation.ofOperands(source, cursor));
            } else {
                fault = FAULT_OPERATION;
            }
            int behind = source.kindOf(cursor);
            if (fault == 0 && behind != Source.END) {
                fault = misplaced(behind);
            }
        }

        /** The fault of a token that stands where it can't. */
        private static int misplaced(int kind) {
            return kind == Source.BAD ? FAULT_BYTE : FAULT_OPERANDS;
        }

        private void readDirective(Directive directive) {
            if (directive.section != NONE) {
                section = directive.section;
                return;
            }
            if (directive.tellsBytes && section == BSS
                    || (draft.sizes[section] & (directive.width - 1)) != 0) {
                fault = FAULT_PLACE;
                return;
            }
            boolean more = true;
            for (int i = 0; i < TEXT_LIMIT && more; i++) {
                if (directive == Directive.SPACE || directive == Directive.ALIGN) {
                    readZeros(directive == Directive.SPACE);
                } else if (directive == Directive.GLOBL) {
                    readGlobal();
                } else if (directive == Directive.ASCII || directive == Directive.ASCIIZ) {
                    readString(directive == Directive.ASCIIZ);
                } else {
                    readNumberItem(directive);
                }
                more = fault == 0 && directive.isList && source.kindOf(cursor) == ',';
                if (more) {
                    cursor++;
                }
            }
        }

        private void readZeros(boolean asTold) {
            readBounded(0, asTold ? SECTION_LIMIT : 3);
            if (fault != 0) {
                return;
            }
            int told = (int) number;
            int many = asTold ? told : -draft.sizes[section] & ((1 << told) - 1);
            if (!draft.appendZeros(section, many)) {
                fault = FAULT_MANY;
            }
        }

        private void readGlobal() {
            int kind = source.kindOf(cursor);
            if (kind != Source.NAME) {
                fault = misplaced(kind);
                return;
            }
            int k = numberSymbol(cursor);
            cursor++;
            if (k != NONE) {
                draft.symbols.globals[k] = true;
            }
        }

        private void readString(boolean zeroBehind) {
            int kind = source.kindOf(cursor);
            if (kind != Source.STRING) {
                fault = misplaced(kind);
                return;
            }
            int to = source.startOf(cursor) + source.valueOf(cursor);
            for (int at = source.startOf(cursor); at < to; at++) {
                int value = source.byteOrNone(at);
                if (value == '\\') {
                    at++;
                    value = source.escapeAt(at);
                }
                emit(value, 1);
            }
            if (zeroBehind) {
                emit(0, 1);
            }
            cursor++;
        }

        private void readNumberItem(Directive directive) {
            if (directive == Directive.WORD) {
                readPlain(WITH_NUMBER | WITH_NAME);
            } else if (directive == Directive.HALF) {
                readBounded(-32768, 65535);
            } else {
                readBounded(-128, 255);
            }
            if (fault == 0 && nameToken != NONE) {
                symbolNumber = numberSymbol(nameToken);
                emitWord(0, KIND_WORD);
            } else {
                emit((int) number, directive.width);
            }
        }

        /** An EXPRESSION: a NUMBER; a NAME, perhaps + or - and a NUMBER without a sign. */
        private void readPlain(int allowed) {
            int kind = source.kindOf(cursor);
            int next = source.kindOf(cursor + 1);
            boolean numbers = (allowed & WITH_NUMBER) != 0;
            nameToken = NONE;
            number = 0;
            if (kind == Source.NUMBER && numbers) {
                number = source.numberOf(cursor);
                cursor++;
            } else if (kind == '-' && numbers) {
                number = -source.numberOf(cursor + 1);
                fault = next == Source.NUMBER && number >= LOWEST_NUMBER ? 0 : FAULT_BYTE;
                cursor += 2;
            } else if (kind == Source.NAME && (allowed & WITH_NAME) != 0) {
                nameToken = cursor;
                cursor++;
                if (next == '+' || next == '-') {
                    int last = source.kindOf(cursor + 1);
                    long told = source.numberOf(cursor + 1);
                    fault = last == Source.NUMBER ? 0 : misplaced(last);
                    number = next == '-' ? -told : told;
                    cursor += 2;
                }
            } else {
                fault = misplaced(kind);
            }
        }

        private void readBounded(int low, int high) {
            readPlain(WITH_NUMBER);
            if (fault == 0 && (number < low || number > high)) {
                fault = FAULT_RANGE;
            }
        }

        /** An EXPRESSION, or one behind %hi or %lo. */
        private void readValue(int allowed) {
            if (source.kindOf(cursor) != '%' || (allowed & (WITH_LOW | WITH_HIGH)) == 0) {
                readPlain(allowed);
                return;
            }
            cursor++;
            if (source.spells(cursor, "lo")) {
                half = KIND_LOW;
            } else if (source.spells(cursor, "hi") && (allowed & WITH_HIGH) != 0) {
                half = KIND_HIGH;
            } else {
                fault = misplaced(source.kindOf(cursor));
                return;
            }
            cursor++;
            take('(');
            if (fault == 0) {
                readPlain(WITH_NUMBER | WITH_NAME);
                take(')');
            }
        }

        private void take(int kind) {
            int found = source.kindOf(cursor);
            if (fault == 0 && found != kind) {
                fault = misplaced(found);
            }
            cursor++;
        }

        private void readInstruction(Operation operation) {
            if (section != TEXT || (draft.sizes[TEXT] & 3) != 0) {
                fault = FAULT_PLACE;
                return;
            }
            nameToken = NONE;
            number = 0;
            half = 0;
            sources = 0;
            others = 0;
            reference = 0;
            upperHolder = NONE;
            boolean behindOne = false;
            for (int i = 0; i < operation.operands.length() && fault == 0; i++) {
                char letter = operation.operands.charAt(i);
                if (isOptional(letter) && !source.beginsNumber(cursor)) {
                    continue;
                }
                if (behindOne) {
                    take(',');
                }
                if (fault == 0 && REGISTER_LETTERS.indexOf(letter) >= 0) {
                    readRegister(letter);
                } else if (fault == 0) {
                    readValueOperand(letter);
                }
                behindOne = true;
            }
            if (fault == 0) {
                emitInstruction(operation);
            }
        }

        private static boolean isOptional(char letter) {
            return letter == 'c' || letter == 'k' || letter == 'q';
        }

        private void readRegister(char letter) {
            boolean fraction = letter == 'D' || letter == 'S' || letter == 'T';
            int found = takeRegister(fraction ? Source.FRACTION : Source.REGISTER);
            switch (letter) {
                case 's':
                    sources |= found << 21;
                    break;
                case 't':
                    sources |= found << 16;
                    break;
                case 'T':
                    others |= found << 16;
                    break;
                case 'D':
                    others |= found << 6;
                    break;
                case 'b':
                    others |= found << 16 | found << 11;
                    break;
                default:
                    others |= found << 11;
                    break;
            }
        }

        private int takeRegister(int wanted) {
            int kind = source.kindOf(cursor);
            if (fault == 0 && kind != wanted) {
                fault = misplaced(kind);
            }
            cursor++;
            return source.valueOf(cursor - 1) & 31;
        }

        private void readValueOperand(char letter) {
            switch (letter) {
                case 'L':
                    readPlain(WITH_NAME);
                    reference = KIND_BRANCH;
                    break;
                case 'J':
                    readPlain(WITH_NAME);
                    reference = KIND_JUMP;
                    break;
                case 'A':
                    readPlain(WITH_NAME);
                    upperHolder = sources >>> 16;
                    break;
                case 'n':
                    readPlain(WITH_NUMBER);
                    break;
                case 'h':
                    readBounded(0, 31);
                    others |= (int) number << 6;
                    break;
                case 'c':
                    readBounded(0, 0xFFFFF);
                    others |= (int) number << 6;
                    break;
                case 'k':
                    readBounded(0, 7);
                    others |= (int) number << 18;
                    break;
                case 'q':
                    readBounded(0, 7);
                    others |= (int) number << 8;
                    break;
                case 'i':
                    readValue(WITH_NUMBER | WITH_LOW);
                    placeHalf(-32768, 32767);
                    break;
                case 'u':
                    readValue(WITH_NUMBER | WITH_LOW | WITH_HIGH);
                    placeHalf(0, 65535);
                    break;
                default:
                    if (source.kindOf(cursor) != '(') {
                        readValue(WITH_NUMBER | WITH_LOW | WITH_NAME);
                    }
                    readMemoryRest();
                    break;
            }
        }

        /** The lower 16 bits of the instruction by the operand that was read. */
        private void placeHalf(int low, int high) {
            if (half != 0 && nameToken != NONE) {
                reference = half;
            } else if (half != 0) {
                others |= halfOf(half, (int) number);
            } else if (fault == 0 && (number < low || number > high)) {
                fault = FAULT_RANGE;
            } else {
                others |= (int) number & 0xFFFF;
            }
        }

        /** What an m has behind its number, if it is no EXPRESSION with a NAME. */
        private void readMemoryRest() {
            if (nameToken != NONE && half == 0) {
                upperHolder = 1;
                return;
            }
            placeHalf(-32768, 32767);
            take('(');
            sources |= takeRegister(Source.REGISTER) << 21;
            take(')');
        }

        private void emitInstruction(Operation operation) {
            if (nameToken != NONE) {
                symbolNumber = numberSymbol(nameToken);
            }
            if (operation == Operation.LI) {
                emitNumberLoad((int) number);
            } else if (upperHolder != NONE) {
                emitWord(LUI | upperHolder << 16, KIND_HIGH);
                emitWord(operation.code | sources | others | upperHolder << 21, KIND_LOW);
            } else if (operation.lead != 0) {
                emitWord(operation.lead | sources, 0);
                emitWord(operation.code | others, reference);
            } else {
                emitWord(operation.code | sources | others, reference);
            }
        }

        private void emitNumberLoad(int value) {
            int low = value & 0xFFFF;
            if (value >= -32768 && value <= 32767) {
                emit(ADDIU | sources | low, 4);
            } else if (value >= 0 && value <= 65535) {
                emit(ORI | sources | low, 4);
            } else {
                emit(LUI | sources | value >>> 16, 4);
                if (low != 0) {
                    emit(ORI | sources << 5 | sources | low, 4);
                }
            }
        }

        /** Four bytes, with a relocation of a kind (0 none) to the symbol that was found. */
        private void emitWord(int value, int kind) {
            Relocations list = draft.relocations;
            int k = list.number;
            if (kind != 0 && k >= RELOCATION_LIMIT) {
                fault = FAULT_MANY;
            } else if (kind != 0) {
                list.sections[k] = section;
                list.places[k] = draft.sizes[section];
                list.kinds[k] = kind;
                list.symbols[k] = symbolNumber;
                list.addends[k] = number;
                list.lines[k] = line;
                list.number = k + 1;
            }
            emit(value, 4);
        }

        private void emit(int value, int width) {
            if (fault == 0 && !draft.append(section, value, width)) {
                fault = FAULT_MANY;
            }
        }

        /** Branches within TEXT need no relocation, once all lines have told their labels. */
        private void settleBranches() {
            Relocations list = draft.relocations;
            int kept = 0;
            for (int k = 0; k < list.number && fault == 0; k++) {
                int target = list.symbols[k];
                boolean inside = list.kinds[k] == KIND_BRANCH
                        && target >= 0 && target < draft.symbols.number
                        && draft.symbols.sections[target] == TEXT;
                if (inside) {
                    settleBranch(list.places[k],
                            draft.symbols.values[target] + list.addends[k], list.lines[k]);
                } else {
                    list.move(k, kept);
                    kept++;
                }
            }
            list.number = kept;
        }

        private void settleBranch(int place, long target, int ofLine) {
            long distance = target - place - 4;
            long words = distance >> 2;
            if ((distance & 3) != 0 || words < -32768 || words > 32767) {
                fault = FAULT_RANGE;
                line = ofLine;
            } else if (place >= 0 && place + 3 < SECTION_LIMIT) {
                draft.bytes[TEXT][place + 2] = (byte) (words >> 8);
                draft.bytes[TEXT][place + 3] = (byte) words;
            }
        }
    }

    /** Joins objects to an image. */
    private static final class Linker {
        private static final int FAULT_DOUBLE = 1;
        private static final int FAULT_NONE = 2;
        private static final int FAULT_FAR = 3;
        private static final int FAULT_GREAT = 4;

        private final byte[] image = new byte[IMAGE_LIMIT];
        private int base = 0;
        private int imageSize = 0;
        // How many objects the image has been made of; 0: there is none.
        int joined = 0;
        int fault = 0;
        int faultObject = NONE;
        int faultItem = NONE;

        void dropImage() {
            joined = 0;
            imageSize = 0;
        }

        /** Makes the image of the first objects of a row: its size, NONE at a fault. */
        int join(Unit[] units, int many, int newBase) {
            dropImage();
            fault = 0;
            faultObject = NONE;
            faultItem = NONE;
            base = newBase;
            int whole = layOut(units, many);
            if (whole > IMAGE_LIMIT) {
                fault = FAULT_GREAT;
                return NONE;
            }
            findDoubles(units, many);
            if (fault == 0) {
                findAddresses(units, many);
            }
            if (fault == 0) {
                fill(units, many, whole);
                relocate(units, many);
            }
            if (fault != 0) {
                return NONE;
            }
            joined = many;
            imageSize = whole;
            return whole;
        }

        private void tell(int which, int object, int item) {
            fault = which;
            faultObject = object;
            faultItem = item;
        }

        private static int layOut(Unit[] units, int many) {
            int at = 0;
            for (int section = 0; section < SECTIONS; section++) {
                for (int o = 0; o < many; o++) {
                    if (section != TEXT) {
                        at = (at + 7) & ~7;
                    }
                    units[o].starts[section] = at;
                    at += units[o].sizes[section];
                }
            }
            return at;
        }

        private void findDoubles(Unit[] units, int many) {
            for (int o = 1; o < many; o++) {
                Symbols symbols = units[o].symbols;
                for (int k = 0; k < symbols.number; k++) {
                    if (symbols.isOffered(k) && isOfferedByFirst(units, o, symbols, k)) {
                        tell(FAULT_DOUBLE, o, k);
                        return;
                    }
                }
            }
        }

        /** Whether one of the first objects has a GLOBAL symbol of the same name. */
        private static boolean isOfferedByFirst(Unit[] units, int many, Symbols symbols, int k) {
            for (int o = 0; o < many; o++) {
                if (units[o].symbols.offered(symbols, k) != NONE) {
                    return true;
                }
            }
            return false;
        }

        private void findAddresses(Unit[] units, int many) {
            for (int o = 0; o < many; o++) {
                Symbols symbols = units[o].symbols;
                for (int k = 0; k < symbols.number; k++) {
                    int section = symbols.sections[k];
                    if (section != NONE) {
                        symbols.addresses[k] =
                                base + units[o].starts[section] + symbols.values[k];
                    }
                }
            }
            for (int o = 0; o < many; o++) {
                Symbols symbols = units[o].symbols;
                for (int k = 0; k < symbols.number; k++) {
                    if (symbols.sections[k] == NONE && !borrowAddress(units, many, symbols, k)) {
                        tell(FAULT_NONE, o, k);
                        return;
                    }
                }
            }
        }

        /** Whether another object has the symbol that is UNDEFINED here, and so its address. */
        private static boolean borrowAddress(Unit[] units, int many, Symbols symbols, int k) {
            for (int o = 0; o < many; o++) {
                Symbols lender = units[o].symbols;
                int j = lender.offered(symbols, k);
                if (j != NONE) {
                    symbols.addresses[k] = lender.addresses[j];
                    return true;
                }
            }
            return false;
        }

        private void fill(Unit[] units, int many, int whole) {
            Arrays.fill(image, 0, whole, (byte) 0);
            for (int o = 0; o < many; o++) {
                Unit unit = units[o];
                for (int section = TEXT; section < BSS; section++) {
                    System.arraycopy(unit.bytes[section], 0, image, unit.starts[section],
                            unit.sizes[section]);
                }
            }
        }

        private void relocate(Unit[] units, int many) {
            for (int o = 0; o < many; o++) {
                for (int k = 0; k < units[o].relocations.number; k++) {
                    if (!relocateOne(units[o], k)) {
                        tell(FAULT_FAR, o, k);
                        return;
                    }
                }
            }
        }

        /** Whether a relocation could be carried out. */
        private boolean relocateOne(Unit unit, int k) {
            Relocations list = unit.relocations;
            int offset = unit.starts[list.sections[k]] + list.places[k];
            int behind = base + offset + 4;
            int target = unit.symbols.addresses[list.symbols[k]] + (int) list.addends[k];
            int distance = target - behind;
            switch (list.kinds[k]) {
                case KIND_WORD:
                    addBits(offset, target);
                    return true;
                case KIND_JUMP:
                    addBits(offset, target >>> 2 & 0x3FFFFFF);
                    return (target ^ behind) >>> 28 == 0 && (target & 3) == 0;
                case KIND_BRANCH:
                    addBits(offset, distance >> 2 & 0xFFFF);
                    return (distance & 3) == 0
                            && distance >> 2 >= -32768 && distance >> 2 <= 32767;
                default:
                    addBits(offset, halfOf(list.kinds[k], target));
                    return true;
            }
        }

        /** Sets bits of a field that is 0. */
        private void addBits(int offset, int bits) {
            for (int i = 0; i < 4 && offset >= 0 && offset + i < IMAGE_LIMIT; i++) {
                image[offset + i] |= (byte) (bits >>> (24 - 8 * i));
            }
        }

        boolean holdsWord(int address) {
            int offset = address - base;
            return joined > 0 && (address & 3) == 0 && offset >= 0 && offset <= imageSize - 4;
        }

        int wordFrom(int address) {
            int offset = address - base;
            int found = 0;
            for (int i = 0; i < 4 && offset >= 0 && offset + i < imageSize; i++) {
                found = found << 8 | image[offset + i] & 255;
            }
            return found;
        }
    }
}
