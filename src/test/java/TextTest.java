public final class TextTest { public static void main(String[] a) { } }
