import java.util.ArrayList;
import java.util.List;

/** All promises: "a call that throws changes nothing, but that the TEXT is used up ..". */
public final class RefusedCallTest {
    private static final int THROWN = 0x7A7A7A7A;
    private static final int BASE = 0x40;

    /** A call that has to be refused in the state that it is made in. */
    interface Refused {
        int on(ObjectForge forge);
    }

    public static void main(String[] args) {
        Bench.about("a call that throws changes nothing");
        indexes();
        arguments();
        states();
        Bench.about("but that the TEXT is used up where that is said.");
        ninthObject();
        Bench.close("RefusedCallTest");
    }

    /** Two objects in an image, a third one behind it, a fault, and a text that is begun. */
    private static ObjectForge withImage() {
        Bench bench = new Bench();
        bench.make(".globl a\na: .word b+1\nj a\n.data\n.byte 9");
        bench.make("\n.globl b\n.bss\nb: .space 3");
        Bench.due("link", bench.forge.link(BASE), 19);
        bench.make("c: j d");
        bench.make("\n\nfoo");
        bench.feed("nop # begun");
        return bench.forge;
    }

    /** The same without an image, since the third object has a name that no other has. */
    private static ObjectForge withoutImage() {
        ObjectForge forge = withImage();
        Bench.due("link", forge.link(BASE), ObjectForge.NONE);
        return forge;
    }

    private static ObjectForge withoutObjects() {
        ObjectForge forge = withoutImage();
        Bench.due("clear", forge.clear(), 3);
        return forge;
    }

    private static int answer(Bench.Call call) {
        try {
            return call.run();
        } catch (RuntimeException e) {
            return THROWN;
        }
    }

    /** All that can be asked. */
    private static List<Integer> stateOf(ObjectForge forge) {
        List<Integer> state = new ArrayList<>();
        for (int what = 0; what < 5; what++) {
            state.add(forge.fault(what));
        }
        state.add(forge.count(0, 0));
        state.add(forge.count(1, 0));
        for (int o = 0; o < forge.count(1, 0); o++) {
            addObject(state, forge, o);
        }
        for (int at = BASE; at < BASE + 24; at += 4) {
            int address = at;
            state.add(answer(() -> forge.word(address)));
        }
        return state;
    }

    private static void addObject(List<Integer> state, ObjectForge forge, int o) {
        for (int section = 0; section < 3; section++) {
            state.add(forge.size(o, section));
            for (int k = 0; section < 2 && k < forge.size(o, section); k++) {
                state.add(forge.byteAt(o, section, k));
            }
        }
        for (int k = 0; k < forge.count(2, o); k++) {
            int symbol = k;
            for (int what = 0; what < 4; what++) {
                state.add(forge.symbol(o, k, what));
            }
            state.add(forge.letter(o, k, 0));
            state.add(answer(() -> forge.address(o, symbol)));
        }
        for (int k = 0; k < forge.count(3, o); k++) {
            for (int what = 0; what < 5; what++) {
                state.add(forge.relocation(o, k, what));
            }
        }
    }

    private static void dueNothing(String what, ObjectForge forge,
            Class<? extends RuntimeException> thrown, Refused call) {
        List<Integer> before = stateOf(forge);
        Bench.dueThrow(what, thrown, () -> call.on(forge));
        Bench.due("nothing is changed by " + what, before.equals(stateOf(forge)) ? 1 : 0, 1);
    }

    private static void indexes() {
        Class<IndexOutOfBoundsException> index = IndexOutOfBoundsException.class;
        Refused[] calls = {f -> f.fault(5), f -> f.fault(-1), f -> f.size(3, 0), f -> f.size(0, 3),
            f -> f.byteAt(0, 0, 8), f -> f.byteAt(0, 2, 0), f -> f.byteAt(3, 0, 0),
            f -> f.symbol(0, 2, 0), f -> f.symbol(0, 0, 4), f -> f.symbol(-1, 0, 0),
            f -> f.letter(0, 0, 1), f -> f.letter(0, 2, 0), f -> f.relocation(0, 2, 0),
            f -> f.relocation(0, 0, 5), f -> f.word(BASE + 1), f -> f.word(BASE + 16),
            f -> f.word(BASE - 4), f -> f.address(0, 2), f -> f.address(3, 0), f -> f.count(4, 0),
            f -> f.count(-1, 0), f -> f.count(2, 3), f -> f.count(3, -1)};
        for (int i = 0; i < calls.length; i++) {
            dueNothing("call " + i + " with an image", withImage(), index, calls[i]);
            dueNothing("call " + i + " without an image", withoutImage(), index, calls[i]);
            dueNothing("call " + i + " without objects", withoutObjects(), index, calls[i]);
        }
    }

    private static void arguments() {
        Class<IllegalArgumentException> argument = IllegalArgumentException.class;
        Refused[] calls = {f -> f.end(-1), f -> f.end(16), f -> f.end(12), f -> f.link(1),
            f -> f.link(BASE + 4), f -> f.link(-1)};
        for (int i = 0; i < calls.length; i++) {
            dueNothing("call " + i + " with an image", withImage(), argument, calls[i]);
            dueNothing("call " + i + " without an image", withoutImage(), argument, calls[i]);
            dueNothing("call " + i + " without objects", withoutObjects(), argument, calls[i]);
        }
    }

    private static void states() {
        Class<IllegalStateException> state = IllegalStateException.class;
        dueNothing("address behind the image", withImage(), state, f -> f.address(2, 0));
        dueNothing("address without an image", withoutImage(), state, f -> f.address(0, 0));
        dueNothing("link without objects", withoutObjects(), state, f -> f.link(BASE));
    }

    private static void ninthObject() {
        Bench bench = new Bench();
        for (int i = 0; i < 8; i++) {
            Bench.due("object", bench.make("x: .word " + i), i);
        }
        Bench.due("link", bench.forge.link(BASE), 32);
        bench.feed("nop");
        List<Integer> before = stateOf(bench.forge);
        Bench.dueState("a ninth", () -> bench.forge.assemble());
        List<Integer> after = stateOf(bench.forge);
        Bench.due("bytes of the text before", before.set(5, 0), 3);
        Bench.due("bytes of the text behind", after.get(5), 0);
        Bench.due("nothing else is changed", before.equals(after) ? 1 : 0, 1);
    }
}
