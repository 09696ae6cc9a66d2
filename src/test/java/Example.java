public final class Example {
    static int read(SignatureForest forest, int kind, String text) {
        for (int i = 0; i < text.length(); i++) {
            forest.type(text.charAt(i));
        }
        return forest.read(kind);
    }

    static String text(SignatureForest forest, int signature, int what) {
        StringBuilder all = new StringBuilder();
        for (int i = 0; i < forest.length(signature, what); i++) {
            all.append((char) forest.text(signature, what, i));
        }
        return all.toString();
    }

    public static void main(String[] args) {
        SignatureForest forest = new SignatureForest();
        int box = read(forest, 0, "<E:LKey;>LBox;");
        int put = read(forest, 1, "<T::LItem;>(TT;[TE;)V");
        int word = read(forest, 2, "Ljava/lang/String;");
        System.out.println(put); // 1
        System.out.println(text(forest, put, 1)); // <T:Item>(T,E[])void
        System.out.println(text(forest, put, 2)); // (LItem;[Ljava/lang/Object;)V
        System.out.println(forest.scope(put, box)); // -1
        System.out.println(text(forest, put, 2)); // (LItem;[LKey;)V

        int filled = forest.fill(put, 0, word);
        System.out.println(text(forest, filled, 0)); // (Ljava/lang/String;[TE;)V
        System.out.println(forest.measure(filled, 2)); // 1
        System.out.println(forest.clash(put, filled)); // 0

        int other = read(forest, 1, "<X::LItem;>(TX;[TE;)V");
        System.out.println(forest.alike(put, other)); // 1

        System.out.println(read(forest, 1, "(I)")); // -4
        System.out.println(forest.count(1)); // 3
        forest.clear();
        System.out.println(forest.kind(24) == SignatureForest.REFUSED); // true
    }
}
