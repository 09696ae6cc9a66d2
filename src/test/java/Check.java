/** What the tests share: comparing answers, and speaking to a forest in whole texts. */
final class Check {
    static final int WRITTEN = 0;
    static final int SHOWN = 1;
    static final int ERASED = 2;

    private static final int MOST_TOLD = 20;

    private final String name;
    private int wrong;

    Check(String name) {
        this.name = name;
    }

    void same(String call, long got, long want) {
        if (got != want) {
            tell(call + " answered " + got + ", due is " + want);
        }
    }

    void same(String call, String got, String want) {
        if (!got.equals(want)) {
            tell(call + " answered " + got + ", due is " + want);
        }
    }

    void refused(String call, long got) {
        same(call, got, SignatureForest.REFUSED);
    }

    private void tell(String fault) {
        wrong++;
        if (wrong <= MOST_TOLD) {
            System.out.println(name + ": " + fault);
        }
    }

    int wrong() {
        return wrong;
    }

    void end() {
        System.out.println(name + ": " + (wrong == 0 ? "all answers are as due" : wrong + " are wrong"));
        if (wrong != 0) {
            System.exit(1);
        }
    }

    static void type(SignatureForest forest, String text) {
        for (int i = 0; i < text.length(); i++) {
            forest.type(text.charAt(i));
        }
    }

    static int read(SignatureForest forest, int kind, String text) {
        forest.clear();
        type(forest, text);
        return forest.read(kind);
    }

    /** Reads texts that are right, each as "kind text". */
    static SignatureForest forest(String... texts) {
        SignatureForest forest = new SignatureForest();
        for (String text : texts) {
            if (read(forest, text.charAt(0) - '0', text.substring(2)) < 0) {
                System.out.println("not read: " + text);
                System.exit(1);
            }
        }
        return forest;
    }

    static String text(SignatureForest forest, int signature, int what) {
        StringBuilder all = new StringBuilder();
        for (int i = 0; forest.text(signature, what, i) != -1; i++) {
            all.append((char) forest.text(signature, what, i));
        }
        return all.toString();
    }

    void hasText(SignatureForest forest, int signature, int what, String want) {
        String call = "text(" + signature + ", " + what + ", ..)";
        same(call, text(forest, signature, what), want);
        same("length(" + signature + ", " + what + ")", forest.length(signature, what), want.length());
    }
}
