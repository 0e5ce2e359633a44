/** Promises 1 to 3, 5 to 10 and 12 to 15: every sentence on what is too small, too large, empty. */
public final class CallTest {
    /** 8 bytes of TEXT, 3 of DATA, 5 of BSS, symbols a, name, u, and 3 relocations. */
    private static final String SMALL = "a: jal u\n.word a\n.data\nname: .byte 1,2,255\n.bss\n"
            + ".space 5\n.text\nj name+8\n";

    public static void main(String[] args) {
        newObject();
        feedFull();
        fullTextToTheEnd();
        feedHighestFirst();
        feedBehindEnd();
        endBounds();
        endNotSoMany();
        faultNoneWas();
        lineWithout();
        linkFaultLikewise();
        objectWithout();
        symbolWithout();
        faultOfTheLatest();
        faultAnotherWhat();
        sizeNoSuch();
        byteAtNone();
        symbolNoSuch();
        symbolUndefined();
        letterNone();
        relocationNoSuch();
        emptyObject();
        wordNoMultiple();
        wordNotAllTheImages();
        wordOverTheEnd();
        wordWithoutImage();
        addressNoSuch();
        addressNoImage();
        addressCameBehind();
        addressFirstTold();
        clearAll();
        clearNothing();
        countAnotherWhat();
        countNoObject();
        Bench.close("CallTest");
    }

    private static ObjectForge small() {
        return Bench.made(SMALL).forge;
    }

    private static void newObject() {
        Bench.about("No text, no objects, no image.");
        ObjectForge forge = new ObjectForge();
        Bench.due("text", forge.count(0, 0), 0);
        Bench.due("objects", forge.count(1, 0), 0);
        Bench.dueArgument("end(1)", () -> forge.end(1));
        Bench.dueIndex("size", () -> forge.size(0, 0));
        Bench.dueIndex("symbols", () -> forge.count(2, 0));
        Bench.dueIndex("word", () -> forge.word(0));
        Bench.dueState("link", () -> forge.link(0));
        Bench.due("NONE", ObjectForge.NONE, -1);
    }

    /** The 513th call: the document promises nothing of it but by this sentence. */
    private static void feedFull() {
        Bench.about("there would be more than 8,192.");
        ObjectForge forge = new ObjectForge();
        for (int bytes = 16; bytes <= 8192; bytes += 16) {
            Bench.due("feed", forge.feed(0x0A0A0A0A, 0x0A0A0A0A, 0x0A0A0A0A, 0x0A0A0A0A), bytes);
        }
        Bench.dueState("feed of a full text", () -> forge.feed(0, 0, 0, 0));
        Bench.due("nothing came", forge.count(0, 0), 8192);
        Bench.due("end 15", forge.end(15), 8177);
        Bench.dueState("feed with room for 15", () -> forge.feed(0, 0, 0, 0));
        Bench.due("end 1", forge.end(1), 8176);
        Bench.due("feed with room for 16", forge.feed(0x0A0A0A40, 0, 0, 0), 8192);
        Bench.due("assemble", forge.assemble(), ObjectForge.NONE);
        Bench.due("fault", forge.fault(0), Bench.BYTE);
        Bench.due("all lines were kept", forge.fault(1), 8180);
    }

    /** Beyond 512 calls, too: all of a full text is read. */
    private static void fullTextToTheEnd() {
        Bench.about("there would be more than 8,192. (but all of these are read)");
        Bench bench = new Bench();
        for (int i = 1; i < 512; i++) {
            bench.forge.feed(0x20202020, 0x20202020, 0x20202020, 0x20202020);
        }
        bench.feed("j first\nj second");
        Bench.due("bytes", bench.forge.count(0, 0), 8192);
        Bench.due("assemble", bench.forge.assemble(), 0);
        Bench.due("symbols", bench.forge.count(2, 0), 2);
        bench.dueSymbol(0, 0, "first", -1, 0, 0);
        bench.dueSymbol(0, 1, "second", -1, 0, 0);
    }

    private static void feedHighestFirst() {
        Bench.about("Sixteen bytes more of the text, the highest of a first: how many there are.");
        ObjectForge forge = new ObjectForge();
        // .ascii "abcdefgh" # and 0x80 .. at the end.
        Bench.due("feed", forge.feed(0x2E617363, 0x69692022, 0x61626364, 0x65666768), 16);
        Bench.due("feed", forge.feed(0x80FF7F22, 0x23000000, 0, 0xFFFFFFFF), 32);
        Bench.due("assemble", forge.assemble(), 0);
        int[] due = {'a', 'b', 'c', 'd', 'e', 'f', 'g', 'h', 0x80, 0xFF, 0x7F};
        Bench.due("bytes", forge.size(0, 0), due.length);
        for (int k = 0; k < due.length; k++) {
            Bench.due("byte " + k, forge.byteAt(0, 0, k), due[k]);
        }
    }

    private static void feedBehindEnd() {
        Bench.about("The last n bytes go again: how many are left.");
        ObjectForge forge = new ObjectForge();
        // ".byte 25", 8 bytes that go, "5,1", 13 bytes that go.
        Bench.due("feed", forge.feed(0x2E627974, 0x65203235, 0x40404040, 0x40404040), 16);
        Bench.due("end 8", forge.end(8), 8);
        Bench.due("feed", forge.feed(0x352C3140, 0x40404040, 0x40404040, 0x40404040), 24);
        Bench.due("end 10", forge.end(10), 14);
        Bench.due("end 3", forge.end(3), 11);
        Bench.due("bytes", forge.count(0, 0), 11);
        Bench.due("assemble", forge.assemble(), 0);
        Bench.due("bytes of TEXT", forge.size(0, 0), 2);
        Bench.due("first", forge.byteAt(0, 0, 0), 255);
        Bench.due("second", forge.byteAt(0, 0, 1), 1);
    }

    private static void endBounds() {
        Bench.about("n is not 0 .. 15");
        ObjectForge forge = new ObjectForge();
        forge.feed(0, 0, 0, 0);
        forge.feed(0, 0, 0, 0);
        Bench.dueArgument("end -1", () -> forge.end(-1));
        Bench.dueArgument("end 16", () -> forge.end(16));
        Bench.dueArgument("end of the lowest", () -> forge.end(Integer.MIN_VALUE));
        Bench.dueArgument("end of the highest", () -> forge.end(Integer.MAX_VALUE));
        Bench.due("nothing went", forge.count(0, 0), 32);
        Bench.due("end 0", forge.end(0), 32);
        Bench.due("end 15", forge.end(15), 17);
        Bench.due("end 1", forge.end(1), 16);
    }

    private static void endNotSoMany() {
        Bench.about("or there are not so many.");
        ObjectForge forge = new ObjectForge();
        Bench.dueArgument("end 1 of none", () -> forge.end(1));
        Bench.due("end 0 of none", forge.end(0), 0);
        forge.feed(0, 0, 0, 0);
        Bench.due("end 12", forge.end(12), 4);
        Bench.dueArgument("end 5 of 4", () -> forge.end(5));
        Bench.due("four are left", forge.count(0, 0), 4);
        Bench.due("end 4 of 4", forge.end(4), 0);
        forge.feed(0, 0, 0, 0);
        forge.assemble();
        Bench.dueArgument("end 1 of a text that is used up", () -> forge.end(1));
    }

    /** What fault tells before any assemble() and link(), behind a fault, and without one. */
    private static void dueWithout(int what, int without, int with) {
        Bench bench = new Bench();
        Bench.due("fault " + what + ", none was", bench.forge.fault(what), without);
        bench.make("x:\nj u");
        Bench.due("fault " + what + ", no fault", bench.forge.fault(what), without);
        bench.make("\n\nfoo");
        bench.forge.link(0);
        Bench.due("fault " + what + ", a fault", bench.forge.fault(what), with);
        bench.make(".globl u\nu:");
        bench.forge.link(0);
        Bench.due("fault " + what + ", no fault again", bench.forge.fault(what), without);
    }

    private static void faultNoneWas() {
        Bench.about("Of the latest assemble() the fault (what 0; 0 none, or none was)");
        dueWithout(0, 0, Bench.OPERATION);
    }

    private static void lineWithout() {
        Bench.about("its line (1; 0 without)");
        dueWithout(1, 0, 3);
    }

    private static void linkFaultLikewise() {
        Bench.about("Of the latest link() the fault (2; 0 likewise)");
        dueWithout(2, 0, 2);
    }

    private static void objectWithout() {
        Bench.about("the object (3) .. (NONE without)");
        dueWithout(3, ObjectForge.NONE, 0);
    }

    private static void symbolWithout() {
        Bench.about("and symbol or relocation (4; NONE without)");
        dueWithout(4, ObjectForge.NONE, 1);
    }

    private static void faultOfTheLatest() {
        Bench.about("Of the latest assemble() .. Of the latest link() ..");
        Bench bench = new Bench();
        bench.make("\n\nfoo");
        dueFaults(bench.forge, 2, 3, 0, -1, -1);
        bench.make("\nb u");
        dueFaults(bench.forge, 0, 0, 0, -1, -1);
        bench.make("@");
        dueFaults(bench.forge, 1, 1, 0, -1, -1);
        bench.forge.link(0);
        dueFaults(bench.forge, 1, 1, 2, 0, 0);
        bench.make(".globl u\nu:");
        dueFaults(bench.forge, 0, 0, 2, 0, 0);
        bench.forge.link(0);
        dueFaults(bench.forge, 0, 0, 0, -1, -1);
    }

    private static void dueFaults(ObjectForge forge, int... due) {
        for (int what = 0; what < due.length; what++) {
            Bench.due("fault " + what, forge.fault(what), due[what]);
        }
    }

    private static void faultAnotherWhat() {
        Bench.about("another what.");
        ObjectForge forge = new ObjectForge();
        for (int what : new int[] {-1, 5, Integer.MIN_VALUE, Integer.MAX_VALUE}) {
            Bench.dueIndex("fault " + what, () -> forge.fault(what));
        }
    }

    private static void sizeNoSuch() {
        Bench.about("How many bytes a section of an object has. .. there is no such.");
        ObjectForge forge = small();
        Bench.due("TEXT", forge.size(0, 0), 12);
        Bench.due("DATA", forge.size(0, 1), 3);
        Bench.due("BSS", forge.size(0, 2), 5);
        for (int wrong : new int[] {-1, 3, Integer.MIN_VALUE, Integer.MAX_VALUE}) {
            Bench.dueIndex("section " + wrong, () -> forge.size(0, wrong));
        }
        for (int wrong : new int[] {-1, 1, 8, 9, Integer.MIN_VALUE, Integer.MAX_VALUE}) {
            Bench.dueIndex("object " + wrong, () -> forge.size(wrong, 0));
        }
    }

    private static void byteAtNone() {
        Bench.about("Byte k of TEXT or DATA of an object. .. there is none.");
        ObjectForge forge = small();
        Bench.due("first of TEXT", forge.byteAt(0, 0, 0), 0x0C);
        Bench.due("last of TEXT", forge.byteAt(0, 0, 11), 0);
        Bench.due("first of DATA", forge.byteAt(0, 1, 0), 1);
        Bench.due("last of DATA", forge.byteAt(0, 1, 2), 255);
        Bench.dueIndex("behind TEXT", () -> forge.byteAt(0, 0, 12));
        Bench.dueIndex("behind DATA", () -> forge.byteAt(0, 1, 3));
        Bench.dueIndex("first of BSS", () -> forge.byteAt(0, 2, 0));
        for (int wrong : new int[] {-1, 4096, Integer.MIN_VALUE, Integer.MAX_VALUE}) {
            Bench.dueIndex("byte " + wrong, () -> forge.byteAt(0, 0, wrong));
        }
        for (int wrong : new int[] {-1, 3, Integer.MIN_VALUE, Integer.MAX_VALUE}) {
            Bench.dueIndex("section " + wrong, () -> forge.byteAt(0, wrong, 0));
        }
        for (int wrong : new int[] {-1, 1, 8, Integer.MIN_VALUE, Integer.MAX_VALUE}) {
            Bench.dueIndex("object " + wrong, () -> forge.byteAt(wrong, 0, 0));
        }
    }

    private static void symbolNoSuch() {
        Bench.about("Of symbol k of an object: .. there is no such.");
        Bench bench = Bench.made(SMALL + ".globl name");
        ObjectForge forge = bench.forge;
        bench.dueSymbol(0, 0, "a", 0, 0, 0);
        bench.dueSymbol(0, 2, "name", 1, 0, 1);
        Bench.due("bytes of a", forge.symbol(0, 0, 3), 1);
        Bench.due("bytes of name", forge.symbol(0, 2, 3), 4);
        for (int wrong : new int[] {-1, 3, 64, Integer.MIN_VALUE, Integer.MAX_VALUE}) {
            Bench.dueIndex("symbol " + wrong, () -> forge.symbol(0, wrong, 0));
        }
        for (int wrong : new int[] {-1, 4, Integer.MIN_VALUE, Integer.MAX_VALUE}) {
            Bench.dueIndex("what " + wrong, () -> forge.symbol(0, 0, wrong));
        }
        for (int wrong : new int[] {-1, 1, 8, Integer.MIN_VALUE, Integer.MAX_VALUE}) {
            Bench.dueIndex("object " + wrong, () -> forge.symbol(wrong, 0, 0));
        }
    }

    private static void symbolUndefined() {
        Bench.about("its section (0; NONE of an UNDEFINED one), value (1; 0)");
        Bench bench = Bench.made("nop\nj u\n.globl g\n.space 4084\nlast:\n.bss\n.space 4096\nend:");
        bench.dueSymbol(0, 0, "u", -1, 0, 0);
        bench.dueSymbol(0, 1, "g", -1, 0, 1);
        bench.dueSymbol(0, 2, "last", 0, 4092, 0);
        bench.dueSymbol(0, 3, "end", 2, 4096, 0);
    }

    private static void letterNone() {
        Bench.about("Byte i of the name of symbol k. .. there is none.");
        ObjectForge forge = small();
        Bench.due("the only one", forge.letter(0, 0, 0), 'a');
        Bench.due("the first", forge.letter(0, 2, 0), 'n');
        Bench.due("the last", forge.letter(0, 2, 3), 'e');
        Bench.dueIndex("behind the only one", () -> forge.letter(0, 0, 1));
        for (int wrong : new int[] {-1, 4, 24, Integer.MIN_VALUE, Integer.MAX_VALUE}) {
            Bench.dueIndex("letter " + wrong, () -> forge.letter(0, 2, wrong));
        }
        for (int wrong : new int[] {-1, 3, 64, Integer.MIN_VALUE, Integer.MAX_VALUE}) {
            Bench.dueIndex("symbol " + wrong, () -> forge.letter(0, wrong, 0));
        }
        for (int wrong : new int[] {-1, 1, 8, Integer.MIN_VALUE, Integer.MAX_VALUE}) {
            Bench.dueIndex("object " + wrong, () -> forge.letter(wrong, 0, 0));
        }
    }

    private static void relocationNoSuch() {
        Bench.about("Of relocation k of an object: .. there is no such.");
        Bench bench = Bench.made(SMALL);
        ObjectForge forge = bench.forge;
        bench.dueRelocation(0, 0, 0, 0, 4, 1, 0);
        bench.dueRelocation(0, 1, 0, 4, 2, 0, 0);
        bench.dueRelocation(0, 2, 0, 8, 4, 2, 8);
        for (int wrong : new int[] {-1, 3, 256, Integer.MIN_VALUE, Integer.MAX_VALUE}) {
            Bench.dueIndex("relocation " + wrong, () -> forge.relocation(0, wrong, 0));
        }
        for (int wrong : new int[] {-1, 5, Integer.MIN_VALUE, Integer.MAX_VALUE}) {
            Bench.dueIndex("what " + wrong, () -> forge.relocation(0, 0, wrong));
        }
        for (int wrong : new int[] {-1, 1, 8, Integer.MIN_VALUE, Integer.MAX_VALUE}) {
            Bench.dueIndex("object " + wrong, () -> forge.relocation(wrong, 0, 0));
        }
    }

    private static void emptyObject() {
        Bench.about("an object of an empty text has nothing");
        ObjectForge forge = Bench.made("").forge;
        for (int section = 0; section < 3; section++) {
            int at = section;
            Bench.due("section " + at, forge.size(0, at), 0);
            Bench.dueIndex("byte of section " + at, () -> forge.byteAt(0, at, 0));
        }
        Bench.due("symbols", forge.count(2, 0), 0);
        Bench.due("relocations", forge.count(3, 0), 0);
        Bench.dueIndex("symbol", () -> forge.symbol(0, 0, 0));
        Bench.dueIndex("letter", () -> forge.letter(0, 0, 0));
        Bench.dueIndex("relocation", () -> forge.relocation(0, 0, 0));
        Bench.due("link", forge.link(0), 0);
        Bench.dueIndex("word of an image without bytes", () -> forge.word(0));
        Bench.dueIndex("address", () -> forge.address(0, 0));
    }

    private static ObjectForge imageAt(int base) {
        ObjectForge forge = Bench.made(".word 0x01020304,-2\n.bss\n.space 11").forge;
        Bench.due("link", forge.link(base), 19);
        return forge;
    }

    private static void wordNoMultiple() {
        Bench.about("it is no multiple of 4");
        ObjectForge forge = imageAt(0x1000);
        Bench.due("first", forge.word(0x1000), 0x01020304);
        Bench.due("second", forge.word(0x1004), -2);
        for (int odd = 1; odd < 8; odd++) {
            int at = 0x1000 + odd;
            if (odd != 4) {
                Bench.dueIndex("word " + odd, () -> forge.word(at));
            }
        }
    }

    private static void wordNotAllTheImages() {
        Bench.about("or its four bytes are not all the image's.");
        ObjectForge forge = imageAt(0x1000);
        Bench.due("last whole word", forge.word(0x100C), 0);
        Bench.dueIndex("three bytes of it", () -> forge.word(0x1010));
        Bench.dueIndex("behind it", () -> forge.word(0x1014));
        Bench.dueIndex("ahead of it", () -> forge.word(0x0FFC));
        Bench.dueIndex("0", () -> forge.word(0));
        Bench.dueIndex("-4", () -> forge.word(-4));
        Bench.dueIndex("lowest", () -> forge.word(Integer.MIN_VALUE));
        Bench.dueIndex("highest multiple of 4", () -> forge.word(0x7FFFFFFC));
        Bench.dueIndex("2^31 behind", () -> forge.word(0x80001000));
        for (int bytes = 1; bytes <= 4; bytes++) {
            ObjectForge other = Bench.made(".bss\n.space " + bytes).forge;
            Bench.due("link", other.link(8), bytes);
            if (bytes < 4) {
                Bench.dueIndex("word of " + bytes, () -> other.word(8));
            } else {
                Bench.due("word of 4", other.word(8), 0);
            }
        }
    }

    /** Addresses have 32 bits: an image may go over 2^31 and over 2^32. */
    private static void wordOverTheEnd() {
        Bench.about("The word at an address of the image.");
        ObjectForge middle = imageAt(0x7FFFFFF8);
        Bench.due("ahead of 2^31", middle.word(0x7FFFFFFC), -2);
        Bench.due("2^31", middle.word(0x80000000), 0);
        Bench.dueIndex("ahead of all", () -> middle.word(0x7FFFFFF4));
        Bench.dueIndex("behind all", () -> middle.word(0x80000008));
        ObjectForge end = imageAt(-8);
        Bench.due("first", end.word(-8), 0x01020304);
        Bench.due("ahead of 2^32", end.word(-4), -2);
        Bench.due("over 2^32", end.word(0), 0);
        Bench.due("last", end.word(4), 0);
        Bench.dueIndex("behind all", () -> end.word(8));
        Bench.dueIndex("ahead of all", () -> end.word(-12));
    }

    private static void wordWithoutImage() {
        Bench.about("there is no image then");
        Bench bench = Bench.made("nop");
        Bench.dueIndex("not linked", () -> bench.forge.word(0));
        bench.forge.link(0);
        Bench.due("linked", bench.forge.word(0), 0);
        bench.make("j u");
        Bench.due("still there", bench.forge.word(0), 0);
        bench.forge.link(0);
        Bench.dueIndex("at a fault", () -> bench.forge.word(0));
    }

    private static void addressNoSuch() {
        Bench.about("The address of symbol k of an object in the image .. there is no such");
        Bench bench = Bench.made("a: b:\n.globl a");
        Bench.due("second", bench.make("c: j a\nnop"), 1);
        ObjectForge forge = bench.forge;
        Bench.due("link", forge.link(0x40), 8);
        Bench.due("a", forge.address(0, 0), 0x40);
        Bench.due("b", forge.address(0, 1), 0x40);
        Bench.due("c", forge.address(1, 0), 0x40);
        Bench.due("a by the other", forge.address(1, 1), 0x40);
        for (int wrong : new int[] {-1, 2, 64, Integer.MIN_VALUE, Integer.MAX_VALUE}) {
            Bench.dueIndex("symbol " + wrong, () -> forge.address(0, wrong));
        }
        for (int wrong : new int[] {-1, 2, 8, Integer.MIN_VALUE, Integer.MAX_VALUE}) {
            Bench.dueIndex("object " + wrong, () -> forge.address(wrong, 0));
        }
    }

    private static void addressNoImage() {
        Bench.about("there is no image");
        Bench bench = Bench.made("a: .globl a");
        ObjectForge forge = bench.forge;
        Bench.dueState("not linked", () -> forge.address(0, 0));
        forge.link(8);
        Bench.due("linked", forge.address(0, 0), 8);
        bench.make(".globl a\na:");
        forge.link(8);
        Bench.dueState("at a fault", () -> forge.address(0, 0));
    }

    private static void addressCameBehind() {
        Bench.about("or the object came behind it.");
        Bench bench = Bench.made("a:");
        ObjectForge forge = bench.forge;
        forge.link(16);
        Bench.due("second", bench.make("nop\nb: nop"), 1);
        Bench.dueState("of the second", () -> forge.address(1, 0));
        Bench.due("of the first", forge.address(0, 0), 16);
        forge.link(24);
        Bench.due("of the second, linked", forge.address(1, 0), 28);
        Bench.due("of the first, linked anew", forge.address(0, 0), 24);
    }

    private static void addressFirstTold() {
        Bench.about("Of several exceptions the first one told is thrown (address)");
        Bench bench = Bench.made("a:");
        ObjectForge forge = bench.forge;
        Bench.dueIndex("no symbol, no image", () -> forge.address(0, 1));
        Bench.dueIndex("no object, no image", () -> forge.address(1, 0));
        Bench.dueIndex("no object -1, no image", () -> forge.address(-1, 0));
        forge.link(16);
        bench.make("b:");
        Bench.dueIndex("no symbol, came behind it", () -> forge.address(1, 1));
        Bench.dueIndex("no symbol -1, came behind it", () -> forge.address(1, -1));
        Bench.dueState("came behind it", () -> forge.address(1, 0));
    }

    private static void clearAll() {
        Bench.about("No objects, no image: how many objects there were.");
        Bench bench = new Bench();
        for (int i = 0; i < 8; i++) {
            Bench.due("object", bench.make("x: nop"), i);
        }
        ObjectForge forge = bench.forge;
        Bench.due("link", forge.link(0), 32);
        bench.feed("y:");
        Bench.due("clear", forge.clear(), 8);
        Bench.due("objects", forge.count(1, 0), 0);
        Bench.due("the text is left", forge.count(0, 0), 2);
        Bench.dueIndex("object", () -> forge.size(0, 0));
        Bench.dueIndex("word", () -> forge.word(0));
        Bench.dueIndex("address", () -> forge.address(0, 0));
        Bench.dueState("link of none", () -> forge.link(0));
        Bench.due("the first one again", forge.assemble(), 0);
        bench.dueSymbol(0, 0, "y", 0, 0, 0);
        Bench.dueState("no image of it", () -> forge.address(0, 0));
        Bench.due("clear", forge.clear(), 1);
    }

    private static void clearNothing() {
        Bench.about("how many objects there were.");
        Bench bench = new Bench();
        Bench.due("clear of a new one", bench.forge.clear(), 0);
        bench.make("@");
        Bench.due("clear behind a fault", bench.forge.clear(), 0);
        bench.make("nop");
        Bench.due("clear", bench.forge.clear(), 1);
        Bench.due("clear again", bench.forge.clear(), 0);
    }

    private static void countAnotherWhat() {
        Bench.about("another what");
        ObjectForge forge = small();
        for (int wrong : new int[] {-1, 4, Integer.MIN_VALUE, Integer.MAX_VALUE}) {
            Bench.dueIndex("what " + wrong, () -> forge.count(wrong, 0));
        }
    }

    private static void countNoObject() {
        Bench.about("or (for 2, 3) no object n.");
        Bench bench = Bench.made(SMALL);
        Bench.due("second", bench.make("x: y: z: zz:"), 1);
        bench.feed("12345");
        ObjectForge forge = bench.forge;
        for (int any : new int[] {-1, 0, 2, Integer.MIN_VALUE, Integer.MAX_VALUE}) {
            Bench.due("bytes, whatever n is", forge.count(0, any), 5);
            Bench.due("objects, whatever n is", forge.count(1, any), 2);
        }
        Bench.due("symbols of 0", forge.count(2, 0), 3);
        Bench.due("symbols of 1", forge.count(2, 1), 4);
        Bench.due("relocations of 0", forge.count(3, 0), 3);
        Bench.due("relocations of 1", forge.count(3, 1), 0);
        for (int wrong : new int[] {-1, 2, 8, Integer.MIN_VALUE, Integer.MAX_VALUE}) {
            Bench.dueIndex("symbols of " + wrong, () -> forge.count(2, wrong));
            Bench.dueIndex("relocations of " + wrong, () -> forge.count(3, wrong));
        }
    }
}
