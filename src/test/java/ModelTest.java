/**
 * All promises together: long runs of calls, and every short line, against the plain model. The
 * runs come from a fixed row of numbers, so they are the same each time.
 */
public final class ModelTest {
    private static final Check CHECK = new Check("ModelTest");
    private static final int RUNS = 1500;
    private static final int CALLS = 512;
    private static final String[] NAMES = {
        "A", "A", "A", "B", "B", "C", "T", "L", "TA", "LB", "AB", "java", "(", ")", "^", "*", "]", ",", "V", "I", "$",
    };

    private static long seed = 20261115L;
    private static SignatureForest forest;
    private static Model model;
    private static int calls;

    public static void main(String[] args) {
        everyShortLine();
        for (int run = 0; run < RUNS && CHECK.wrong() == 0; run++) {
            oneRun(run);
        }
        CHECK.end();
    }

    private static void everyShortLine() {
        for (String start : new String[] {"", "<A:", "La<", "()V", "La.b", "<A:TB;", "(La;"}) {
            for (int size = 0; size <= 4; size++) {
                lines(start, size);
            }
        }
    }

    private static void lines(String text, int more) {
        if (more > 0) {
            for (char c : "LTA;<>:[*+/.()^VI".toCharArray()) {
                lines(text + c, more - 1);
            }
            return;
        }
        SignatureForest fresh = new SignatureForest();
        for (int kind = 0; kind < 3; kind++) {
            int fault = Grammar.fault(text, kind);
            int want = fault < 0 ? 0 : -1 - fault;
            int got = Check.read(fresh, kind, text);
            CHECK.same("read(" + kind + ") of " + text, Math.min(got, 0), want);
            if (got >= 0) {
                fresh = new SignatureForest();
            }
        }
    }

    private static int below(int limit) {
        seed = seed * 6364136223846793005L + 1442695040888963407L;
        return (int) ((seed >>> 33) % limit);
    }

    private static void oneRun(int run) {
        forest = new SignatureForest();
        model = new Model();
        calls = 0;
        int style = run % 3;
        while (calls < CALLS) {
            if (below(style == 0 ? 2 : 4) == 0) {
                readOne();
            }
            for (int i = below(10); i > 0; i--) {
                askOne(run);
            }
            if (style == 2 && below(3) == 0) {
                fillOne();
            }
        }
        compareAll(run);
    }

    private static boolean goesOn() {
        calls++;
        return calls <= CALLS;
    }

    private static void same(String call, int got, int want) {
        CHECK.same("call " + calls + ": " + call, got, want);
    }

    private static void readOne() {
        int kind = below(3);
        String text = mutated(signature(kind));
        if (below(8) == 0 && goesOn()) {
            forest.clear();
            model.clear();
        }
        for (int i = 0; i < text.length() && goesOn(); i++) {
            same("type", forest.type(text.charAt(i)), model.type(text.charAt(i)));
        }
        if (goesOn()) {
            int want = model.read(kind);
            same("read(" + kind + ") of " + text, forest.read(kind), want);
            if (want < 0 && goesOn()) {
                forest.clear();
                model.clear();
            }
        }
    }

    private static int some() {
        int made = model.count(0);
        return below(20) == 0 ? below(30) - 3 : below(made + (made < 3 ? 1 : 0));
    }

    private static void fillOne() {
        int old = some();
        int k = below(Math.max(1, model.parameters(old)) + (below(8) == 0 ? 2 : 0)) - (below(30) == 0 ? 1 : 0);
        int field = some();
        for (int i = 0; i < 6 && model.kind(field) != 2; i++) {
            field = some();
        }
        if (goesOn()) {
            String call = "fill(" + old + ", " + k + ", " + field + ")";
            same(call, forest.fill(old, k, field), model.fill(old, k, field));
        }
    }

    private static void askOne(int run) {
        int a = some();
        int b = some();
        int what = below(12) == 0 ? below(9) - 2 : below(3);
        if (!goesOn()) {
            return;
        }
        String told = "run " + run + " ";
        switch (below(11)) {
            case 0 -> same(told + "scope(" + a + ", " + b + ")", forest.scope(a, b), model.scope(a, b));
            case 1 -> same(told + "scope(" + a + ", -1)", forest.scope(a, -1), model.scope(a, -1));
            case 2 -> same(told + "kind", forest.kind(a), model.kind(a));
            case 3 -> same(told + "length", forest.length(a, what), model.length(a, what));
            case 4 -> same(told + "alike(" + a + ", " + b + ")", forest.alike(a, b), model.alike(a, b));
            case 5 -> same(told + "clash(" + a + ", " + b + ")", forest.clash(a, b), model.clash(a, b));
            case 6 -> same(told + "parameters", forest.parameters(a), model.parameters(a));
            case 7 -> same(told + "bounds", forest.bounds(a, what), model.bounds(a, what));
            case 8 -> same(told + "measure", forest.measure(a, what * 2), model.measure(a, what * 2));
            case 9 -> same(told + "count", forest.count(what), model.count(what));
            default -> {
                int index = below(60) - 2;
                same(told + "text", forest.text(a, what, index), model.text(a, what, index));
            }
        }
    }

    /** At the end of a run everything that can be asked is asked; no promise counts these calls. */
    private static void compareAll(int run) {
        for (int a = 0; a < model.count(0); a++) {
            for (int what = 0; what < 6; what++) {
                same("run " + run + " measure(" + a + ", " + what + ")", forest.measure(a, what), model.measure(a, what));
                same("run " + run + " length(" + a + ", " + what + ")", forest.length(a, what), model.length(a, what));
                same("run " + run + " bounds(" + a + ", " + what + ")", forest.bounds(a, what), model.bounds(a, what));
                for (int i = 0; i < model.length(a, what) && what < 3; i++) {
                    String call = "run " + run + " text(" + a + ", " + what + ", " + i + ")";
                    same(call, forest.text(a, what, i), model.text(a, what, i));
                }
            }
            for (int b = 0; b < model.count(0); b++) {
                same("run " + run + " alike(" + a + ", " + b + ")", forest.alike(a, b), model.alike(a, b));
                same("run " + run + " clash(" + a + ", " + b + ")", forest.clash(a, b), model.clash(a, b));
            }
        }
    }

    // Lines: mostly right ones, by the grammar, and now and then one with a wrong character.

    private static String mutated(String text) {
        if (below(6) != 0 || text.isEmpty()) {
            return text;
        }
        int place = below(text.length());
        String wrong = "" + "LTA;<>:[*+/.()^VI".charAt(below(17));
        String before = text.substring(0, place);
        return switch (below(4)) {
            case 0 -> before;
            case 1 -> before + text.substring(place + 1);
            case 2 -> before + wrong + text.substring(place);
            default -> before + wrong + text.substring(place + 1);
        };
    }

    private static String signature(int kind) {
        for (int i = 0; i < 50; i++) {
            String text = switch (kind) {
                case 0 -> parameters() + klass(2) + (below(3) == 0 ? klass(1) + klass(1) : "");
                case 1 -> method();
                default -> reference(below(3));
            };
            if (text.length() <= 40 && (text.length() < 24 || below(3) == 0)) {
                return text;
            }
        }
        return kind == 1 ? "()V" : "LA;";
    }

    private static String method() {
        StringBuilder all = new StringBuilder(parameters()).append('(');
        for (int i = below(4); i > 0; i--) {
            all.append(type(below(2)));
        }
        all.append(')').append(below(2) == 0 ? "V" : type(1));
        for (int i = below(5) - 2; i > 0; i--) {
            all.append('^').append(below(2) == 0 ? klass(0) : "T" + name() + ";");
        }
        return all.toString();
    }

    private static String parameters() {
        int size = below(5) - 1;
        if (size <= 0) {
            return "";
        }
        StringBuilder all = new StringBuilder("<");
        for (int i = 0; i < size; i++) {
            all.append(name()).append(':').append(below(2) == 0 ? "" : reference(below(2)));
            for (int more = below(4) - 2; more > 0; more--) {
                all.append(':').append(reference(0));
            }
        }
        return all.append('>').toString();
    }

    private static String name() {
        return NAMES[below(NAMES.length)];
    }

    private static String type(int depth) {
        return below(3) == 0 ? "" + "BCDFIJSZ".charAt(below(8)) : reference(depth);
    }

    private static String reference(int depth) {
        return switch (below(5)) {
            case 0 -> klass(depth);
            case 1 -> "[" + type(depth);
            case 2 -> "[[" + type(depth);
            default -> "T" + name() + ";";
        };
    }

    private static String klass(int depth) {
        StringBuilder all = new StringBuilder("L");
        all.append(below(4) == 0 ? name() + "/" : "").append(segment(depth));
        all.append(below(4) == 0 ? "." + segment(depth) : "");
        return all.append(';').toString();
    }

    private static String segment(int depth) {
        StringBuilder all = new StringBuilder(name());
        if (depth > 0 && below(2) == 0) {
            all.append('<');
            for (int i = below(3); i >= 0; i--) {
                all.append(new String[] {"*", "+", "-", "", ""}[below(5)]);
                if (all.charAt(all.length() - 1) != '*') {
                    all.append(reference(depth - 1));
                }
            }
            all.append('>');
        }
        return all.toString();
    }
}
