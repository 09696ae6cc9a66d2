/** What the tests share: comparing answers, and speaking to a forest in whole texts. */
final class Check {
    static final int WRITTEN = 0;
    static final int SHOWN = 1;
    static final int ERASED = 2;

    private static final int MOST_TOLD = 20;

    private final String name;
    private String sentence = "";
    private int wrong;

    Check(String name) {
        this.name = name;
    }

    /** The words of the document that the next answers are held against. */
    void sentence(String words) {
        sentence = " [" + words + "]";
    }

    void same(String call, long got, long want) {
        if (got != want) {
            tell(call + " answered " + got + ", due is " + want);
        }
    }

    void same(String call, String got, String want) {
        if (!got.equals(want)) {
            tell(call + " answered " + got + ", due is " + want);
        }
    }

    void refused(String call, long got) {
        same(call, got, SignatureForest.REFUSED);
    }

    private void tell(String fault) {
        wrong++;
        if (wrong <= MOST_TOLD) {
            System.out.println(name + ": " + fault + sentence);
        }
    }

    int wrong() {
        return wrong;
    }

    void end() {
        System.out.println(name + ": " + (wrong == 0 ? "all answers are as due" : wrong + " are wrong"));
        if (wrong != 0) {
            System.exit(1);
        }
    }

    static void type(SignatureForest forest, String text) {
        for (int i = 0; i < text.length(); i++) {
            forest.type(text.charAt(i));
        }
    }

    static int read(SignatureForest forest, int kind, String text) {
        forest.clear();
        type(forest, text);
        return forest.read(kind);
    }

    /** Reads texts that are right, each as "kind text". */
    static SignatureForest forest(String... texts) {
        SignatureForest forest = new SignatureForest();
        for (String text : texts) {
            if (read(forest, text.charAt(0) - '0', text.substring(2)) < 0) {
                System.out.println("not read: " + text);
                System.exit(1);
            }
        }
        return forest;
    }

    static String text(SignatureForest forest, int signature, int what) {
        StringBuilder all = new StringBuilder();
        for (int i = 0; forest.text(signature, what, i) != -1; i++) {
            all.append((char) forest.text(signature, what, i));
        }
        return all.toString();
    }

    void hasText(SignatureForest forest, int signature, int what, String want) {
        String call = "text(" + signature + ", " + what + ", ..)";
        same(call, text(forest, signature, what), want);
        same("length(" + signature + ", " + what + ")", forest.length(signature, what), want.length());
    }

    /** The text alone in the line of a new forest is read as the kind. */
    void right(int kind, String text) {
        SignatureForest forest = new SignatureForest();
        same("read(" + kind + ") of " + text, read(forest, kind, text), 0);
        same("count(1) behind " + text, forest.count(1), 0);
        hasText(forest, 0, WRITTEN, text);
    }

    /** The text has its fault as the kind at the place, and stays in the line. */
    void faultAt(int place, int kind, String text) {
        SignatureForest forest = new SignatureForest();
        same("read(" + kind + ") of " + text, read(forest, kind, text), -1 - place);
        same("count(1) behind " + text, forest.count(1), text.length());
        same("count(0) behind " + text, forest.count(0), 0);
    }

    /** The fault's place is where the mark ! stands. */
    void fault(int kind, String marked) {
        int place = marked.indexOf('!');
        faultAt(place, kind, marked.substring(0, place) + marked.substring(place + 1));
    }

    /** All that can be asked of a forest but its line; scopes are taken away and given back. */
    static String state(SignatureForest forest) {
        StringBuilder all = new StringBuilder();
        all.append(forest.count(0)).append(" made, in the line ").append(forest.count(1));
        for (int s = 0; s < forest.count(0); s++) {
            int scope = forest.scope(s, -1);
            forest.scope(s, scope);
            all.append("; ").append(forest.kind(s)).append(" in ").append(scope);
            for (int what = 0; what < 3; what++) {
                all.append(' ').append(text(forest, s, what));
            }
            all.append(' ').append(forest.parameters(s));
            for (int what = 0; what < 6; what++) {
                all.append(' ').append(forest.measure(s, what));
            }
        }
        return all.toString();
    }
}
