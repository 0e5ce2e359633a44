/** The example of README.md, with the answers that it tells. */
public final class ExampleTest {
    public static void main(String[] args) {
        ObjectForge forge = new ObjectForge();

        feed(forge, ".globl main\n"
                + "main: la $a0,text\n"
                + "jal print\n");
        Bench.due("first", forge.assemble(), 0);

        feed(forge, ".globl print,text\n"
                + "print: jr $ra\n"
                + ".data\n"
                + "text: .asciiz \"hello\"\n");
        int second = forge.assemble();
        Bench.due("second", second, 1);

        Bench.due("size", forge.link(0x00400000), 24);
        Bench.due("word", forge.word(0x00400008), 0x0C100003);
        Bench.due("print", forge.address(second, 0), 0x0040000C);
        Bench.close("ExampleTest");
    }

    private static void feed(ObjectForge forge, String text) {
        for (int from = 0; from < text.length(); from += 16) {
            int[] words = new int[4];
            for (int i = 0; i < 16; i++) {
                int next = from + i < text.length() ? text.charAt(from + i) : 0;
                words[i / 4] = words[i / 4] << 8 | next;
            }
            forge.feed(words[0], words[1], words[2], words[3]);
        }
        forge.end(-text.length() & 15);
    }
}
