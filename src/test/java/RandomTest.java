/** Holds SafeCode against the Oracle on programs made by chance. */
final class RandomTest {
    public static void main(String[] args) {
        int many = args.length > 0 ? Integer.parseInt(args[0]) : 1000;
        int from = args.length > 1 ? Integer.parseInt(args[1]) : 1;
        Against against = new Against();
        for (int seed = from; seed < from + many && against.wrong < 10; seed++) {
            Texts texts = new Texts(seed);
            String name = "seed " + seed;
            String text = texts.program();
            SafeCode x = against.begin();
            against.hold(x, text, name);
            for (int k = 0; k < 3; k++) {
                against.hold(x, texts.spoil(text), name);
            }
            for (int k = 0; k < 10; k++) {
                against.hold(x, texts.scribble(), name);
            }
        }
        against.close();
    }
}
