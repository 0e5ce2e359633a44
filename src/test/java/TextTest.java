/** Promises 1, 2, 3 and 15: a new object, feed, end, count. */
public final class TextTest {
    public static void main(String[] args) {
        newObject();
        feedAndEnd();
        fullText();
        counts();
        Bench.close("TextTest");
    }

    private static void newObject() {
        ObjectForge forge = new ObjectForge();
        Bench.due("NONE", ObjectForge.NONE, -1);
        Bench.due("bytes of a new one", forge.count(0, 0), 0);
        Bench.due("objects of a new one", forge.count(1, 0), 0);
        for (int what = 0; what < 3; what++) {
            Bench.due("fault " + what + " of a new one", forge.fault(what), 0);
        }
        Bench.due("fault 3 of a new one", forge.fault(3), -1);
        Bench.due("fault 4 of a new one", forge.fault(4), -1);
        Bench.dueIndex("size of a new one", () -> forge.size(0, 0));
        Bench.dueIndex("word of a new one", () -> forge.word(0));
        Bench.dueIndex("address of a new one", () -> forge.address(0, 0));
        Bench.dueThrow("link of a new one", IllegalStateException.class, () -> forge.link(0));
        Bench.due("clear of a new one", forge.clear(), 0);
    }

    private static void feedAndEnd() {
        ObjectForge forge = new ObjectForge();
        Bench.due("feed", forge.feed(0x2E627974, 0x65203235, 0x35232020, 0x20202020), 16);
        Bench.due("end 0", forge.end(0), 16);
        Bench.due("end 15", forge.end(15), 1);
        Bench.dueThrow("end of more", IllegalArgumentException.class, () -> forge.end(2));
        Bench.dueThrow("end -1", IllegalArgumentException.class, () -> forge.end(-1));
        Bench.dueThrow("end 16", IllegalArgumentException.class, () -> forge.end(16));
        Bench.due("bytes", forge.count(0, 9), 1);
        // ".byte 255" joined from a part that was cut and one that goes on behind it.
        Bench.due("feed again", forge.feed(0x62797465, 0x20323535, 0x23FFFFFF, 0x80000000), 17);
        Bench.due("end 1", forge.end(1), 16);
        Bench.due("assemble", forge.assemble(), 0);
        Bench.due("the byte", forge.byteAt(0, 0, 0), 255);
        Bench.due("the text is used up", forge.count(0, 0), 0);
        Bench.due("end of nothing", forge.end(0), 0);
        Bench.dueThrow("end 1 of nothing", IllegalArgumentException.class, () -> forge.end(1));
        Bench.dueThrow("end 16, later", IllegalArgumentException.class, () -> forge.end(16));
    }

    private static void fullText() {
        ObjectForge forge = new ObjectForge();
        for (int i = 1; i < 512; i++) {
            forge.feed(0x20202020, 0x20202020, 0x20202020, 0x20202020);
        }
        Bench.due("one is left", forge.count(0, 0), 8176);
        Bench.dueThrow("end 16 of many", IllegalArgumentException.class, () -> forge.end(16));
        Bench.due("the last one", forge.feed(0x0A0A0A0A, 0x0A0A0A0A, 0x0A0A0A0A, 0x0A0A0A23), 8192);
        Bench.dueThrow("one more", IllegalStateException.class, () -> forge.feed(0, 0, 0, 0));
        Bench.due("as before", forge.count(0, 0), 8192);
        Bench.due("end 15", forge.end(15), 8177);
        Bench.dueThrow("too long by one", IllegalStateException.class, () -> forge.feed(0, 0, 0, 0));
        Bench.due("end 1", forge.end(1), 8176);
        Bench.due("it fits", forge.feed(0x40404040, 0, 0, 0), 8192);
        Bench.due("assemble", forge.assemble(), -1);
        Bench.due("fault", forge.fault(0), Bench.BYTE);
        Bench.due("line", forge.fault(1), 1);
    }

    private static void counts() {
        Bench bench = new Bench();
        bench.make("a: la $4,b\n");
        bench.make("c: nop\n");
        ObjectForge forge = bench.forge;
        bench.feed("nop");
        Bench.due("bytes", forge.count(0, -5), 3);
        Bench.due("objects", forge.count(1, 77), 2);
        Bench.due("symbols of 0", forge.count(2, 0), 2);
        Bench.due("symbols of 1", forge.count(2, 1), 1);
        Bench.due("relocations of 0", forge.count(3, 0), 2);
        Bench.due("relocations of 1", forge.count(3, 1), 0);
        Bench.dueIndex("count 4", () -> forge.count(4, 0));
        Bench.dueIndex("count -1", () -> forge.count(-1, 0));
        Bench.dueIndex("symbols of 2", () -> forge.count(2, 2));
        Bench.dueIndex("symbols of -1", () -> forge.count(2, -1));
        Bench.dueIndex("relocations of 2", () -> forge.count(3, 2));
        Bench.dueIndex("relocations of -1", () -> forge.count(3, -1));
    }
}
