import java.util.ArrayList;
import java.util.HashMap;
import java.util.List;
import java.util.Map;

/** The document's terms over trees and Strings: slow and plain, to hold the program against. */
final class Model {
    static final int REFUSED = -100;
    private static final String OBJECT = "Ljava/lang/Object;";

    private final StringBuilder line = new StringBuilder();
    private final List<Tree> made = new ArrayList<>();

    /** A BASE or V (base), a VARIABLE (variable), a CLASS (segments) or an ARRAY (element). */
    private static final class Type {
        char base;
        String variable;
        Type element;
        String packages = "";
        final List<String> segments = new ArrayList<>();
        final List<List<Argument>> arguments = new ArrayList<>();
    }

    /** The sign is * or + or - or a blank. */
    private record Argument(char sign, Type type) { }

    private record Parameter(String name, boolean firstIsMissing, List<Type> bounds) { }

    private static final class Tree {
        int kind;
        int scope = -1;
        List<Parameter> parameters = new ArrayList<>();
        List<Type> types = new ArrayList<>();
        Type result;
        List<Type> thrown = new ArrayList<>();

        Parameter named(String name) {
            for (Parameter p : parameters) {
                if (p.name().equals(name)) {
                    return p;
                }
            }
            return null;
        }
    }

    /** Makes a tree of a text that is known to be right. */
    private static final class Maker {
        final String text;
        int at;

        Maker(String text) {
            this.text = text;
        }

        boolean sees(char c) {
            return at < text.length() && text.charAt(at) == c;
        }

        boolean skips(char c) {
            if (sees(c)) {
                at++;
                return true;
            }
            return false;
        }

        String name() {
            int from = at;
            while (".;/:<>[".indexOf(text.charAt(at)) < 0) {
                at++;
            }
            return text.substring(from, at);
        }

        Tree tree(int kind) {
            Tree tree = new Tree();
            tree.kind = kind;
            if (skips('<')) {
                while (!skips('>')) {
                    tree.parameters.add(parameter());
                }
            }
            if (kind == 1) {
                skips('(');
                while (!skips(')')) {
                    tree.types.add(type());
                }
                tree.result = type();
                while (skips('^')) {
                    tree.thrown.add(type());
                }
            } else {
                while (at < text.length()) {
                    tree.types.add(type());
                }
            }
            return tree;
        }

        Parameter parameter() {
            String name = name();
            skips(':');
            List<Type> bounds = new ArrayList<>();
            boolean missing = true;
            if (sees('L') || sees('T') || sees('[')) {
                missing = false;
                bounds.add(type());
            }
            while (skips(':')) {
                bounds.add(type());
            }
            return new Parameter(name, missing, bounds);
        }

        Type type() {
            Type type = new Type();
            if (skips('[')) {
                type.element = type();
            } else if (skips('T')) {
                type.variable = name();
                skips(';');
            } else if (skips('L')) {
                segments(type);
            } else {
                type.base = text.charAt(at++);
            }
            return type;
        }

        void segments(Type type) {
            StringBuilder packages = new StringBuilder();
            String name = name();
            while (skips('/')) {
                packages.append(name).append('/');
                name = name();
            }
            type.packages = packages.toString();
            addSegment(type, name);
            while (skips('.')) {
                addSegment(type, name());
            }
            skips(';');
        }

        void addSegment(Type type, String name) {
            List<Argument> arguments = new ArrayList<>();
            if (skips('<')) {
                while (!skips('>')) {
                    if (skips('*')) {
                        arguments.add(new Argument('*', null));
                    } else {
                        char sign = skips('+') ? '+' : skips('-') ? '-' : ' ';
                        arguments.add(new Argument(sign, type()));
                    }
                }
            }
            type.segments.add(name);
            type.arguments.add(arguments);
        }
    }

    // The texts.

    private static String written(Type t) {
        if (t.element != null) {
            return "[" + written(t.element);
        }
        if (t.variable != null) {
            return "T" + t.variable + ";";
        }
        if (t.segments.isEmpty()) {
            return "" + t.base;
        }
        StringBuilder all = new StringBuilder("L" + t.packages);
        for (int i = 0; i < t.segments.size(); i++) {
            all.append(i == 0 ? "" : ".").append(t.segments.get(i));
            if (!t.arguments.get(i).isEmpty()) {
                all.append('<');
                for (Argument a : t.arguments.get(i)) {
                    all.append(a.sign() == ' ' ? "" : "" + a.sign());
                    all.append(a.type() == null ? "" : written(a.type()));
                }
                all.append('>');
            }
        }
        return all.append(';').toString();
    }

    private static String writtenAll(List<Type> types, String before) {
        StringBuilder all = new StringBuilder();
        for (Type t : types) {
            all.append(before).append(written(t));
        }
        return all.toString();
    }

    private static String written(Tree tree) {
        StringBuilder all = new StringBuilder();
        if (!tree.parameters.isEmpty()) {
            all.append('<');
            for (Parameter p : tree.parameters) {
                String bounds = writtenAll(p.bounds(), ":");
                all.append(p.name()).append(p.firstIsMissing() ? ":" : "").append(bounds);
            }
            all.append('>');
        }
        if (tree.kind != 1) {
            return all.append(writtenAll(tree.types, "")).toString();
        }
        all.append('(').append(writtenAll(tree.types, "")).append(')').append(written(tree.result));
        return all.append(writtenAll(tree.thrown, "^")).toString();
    }

    private static String shown(Type t) {
        if (t.element != null) {
            return shown(t.element) + "[]";
        }
        if (t.variable != null) {
            return t.variable;
        }
        if (t.segments.isEmpty()) {
            String[] words = {"byte", "char", "double", "float", "int", "long", "short", "boolean", "void"};
            return words["BCDFIJSZV".indexOf(t.base)];
        }
        List<String> segments = new ArrayList<>();
        for (int i = 0; i < t.segments.size(); i++) {
            List<String> arguments = new ArrayList<>();
            for (Argument a : t.arguments.get(i)) {
                String sign = a.sign() == ' ' ? "" : a.sign() == '*' ? "?" : "?" + a.sign();
                arguments.add(sign + (a.type() == null ? "" : shown(a.type())));
            }
            String list = arguments.isEmpty() ? "" : "<" + String.join(",", arguments) + ">";
            segments.add(t.segments.get(i) + list);
        }
        return t.packages.replace('/', '.') + String.join(".", segments);
    }

    private static String shownAll(List<Type> types, String between) {
        List<String> all = new ArrayList<>();
        for (Type t : types) {
            all.add(shown(t));
        }
        return String.join(between, all);
    }

    private static String shown(Tree tree) {
        List<String> parameters = new ArrayList<>();
        for (Parameter p : tree.parameters) {
            parameters.add(p.name() + (p.bounds().isEmpty() ? "" : ":" + shownAll(p.bounds(), "&")));
        }
        String all = parameters.isEmpty() ? "" : "<" + String.join(",", parameters) + ">";
        if (tree.kind == 1) {
            String thrown = tree.thrown.isEmpty() ? "" : "^" + shownAll(tree.thrown, ",");
            return all + "(" + shownAll(tree.types, ",") + ")" + shown(tree.result) + thrown;
        }
        List<Type> more = tree.types.subList(1, tree.types.size());
        return all + shown(tree.types.get(0)) + (more.isEmpty() ? "" : ":" + shownAll(more, ","));
    }

    private static String erased(Type t, Tree home, Tree scope, List<Parameter> open) {
        if (t.element != null) {
            return "[" + erased(t.element, home, scope, open);
        }
        if (t.variable == null) {
            boolean isClass = !t.segments.isEmpty();
            return isClass ? "L" + t.packages + String.join("$", t.segments) + ";" : "" + t.base;
        }
        Parameter own = home.named(t.variable);
        Parameter found = own != null || scope == null ? own : scope.named(t.variable);
        if (found == null || found.bounds().isEmpty() || open.contains(found)) {
            return OBJECT;
        }
        List<Parameter> more = new ArrayList<>(open);
        more.add(found);
        Type bound = found.bounds().get(0);
        return own != null ? erased(bound, home, scope, more) : erased(bound, scope, null, more);
    }

    private String erasedTypes(Tree tree) {
        StringBuilder all = new StringBuilder();
        for (Type t : tree.types) {
            all.append(erased(t, tree, scopeOf(tree), new ArrayList<>()));
        }
        return all.toString();
    }

    private Tree scopeOf(Tree tree) {
        return tree.scope < 0 ? null : made.get(tree.scope);
    }

    private String textOf(int signature, int what) {
        if (!isMade(signature) || what < 0 || what > 2) {
            return null;
        }
        Tree tree = made.get(signature);
        if (what == 0) {
            return written(tree);
        }
        if (what == 1) {
            return shown(tree);
        }
        if (tree.kind != 1) {
            return erasedTypes(tree);
        }
        String result = erased(tree.result, tree, scopeOf(tree), new ArrayList<>());
        return "(" + erasedTypes(tree) + ")" + result;
    }

    // Every TYPE of a tree at any depth.

    private static List<Type> top(Tree tree) {
        List<Type> all = new ArrayList<>();
        for (Parameter p : tree.parameters) {
            all.addAll(p.bounds());
        }
        all.addAll(tree.types);
        if (tree.result != null) {
            all.add(tree.result);
        }
        all.addAll(tree.thrown);
        return all;
    }

    private static void collect(Type t, List<Type> all) {
        all.add(t);
        if (t.element != null) {
            collect(t.element, all);
        }
        for (List<Argument> list : t.arguments) {
            for (Argument a : list) {
                if (a.type() != null) {
                    collect(a.type(), all);
                }
            }
        }
    }

    private static List<Type> every(Tree tree) {
        List<Type> all = new ArrayList<>();
        for (Type t : top(tree)) {
            collect(t, all);
        }
        return all;
    }

    private static int depth(Type t) {
        int deepest = t.element == null ? 0 : depth(t.element);
        for (List<Argument> list : t.arguments) {
            for (Argument a : list) {
                deepest = Math.max(deepest, 1 + (a.type() == null ? 0 : depth(a.type())));
            }
        }
        return deepest;
    }

    private static int brackets(Type t) {
        return t.element == null ? 0 : 1 + brackets(t.element);
    }

    /** The tree again with the VARIABLE of that name as another text. */
    private static Type with(Type t, Map<String, String> texts) {
        Type copy = new Type();
        copy.base = t.base;
        copy.packages = t.packages;
        copy.segments.addAll(t.segments);
        for (List<Argument> list : t.arguments) {
            List<Argument> changed = new ArrayList<>();
            for (Argument a : list) {
                changed.add(new Argument(a.sign(), a.type() == null ? null : with(a.type(), texts)));
            }
            copy.arguments.add(changed);
        }
        if (t.element != null) {
            copy.element = with(t.element, texts);
        }
        copy.variable = t.variable;
        boolean replaced = t.variable != null && texts.containsKey(t.variable);
        return replaced ? new Maker(texts.get(t.variable)).type() : copy;
    }

    private static List<Type> withAll(List<Type> types, Map<String, String> texts) {
        List<Type> all = new ArrayList<>();
        for (Type t : types) {
            all.add(with(t, texts));
        }
        return all;
    }

    private static Tree with(Tree tree, Map<String, String> texts, List<String> names) {
        Tree copy = new Tree();
        copy.kind = tree.kind;
        copy.scope = tree.scope;
        for (int i = 0; i < tree.parameters.size(); i++) {
            Parameter p = tree.parameters.get(i);
            copy.parameters.add(new Parameter(names.get(i), p.firstIsMissing(), withAll(p.bounds(), texts)));
        }
        copy.types = withAll(tree.types, texts);
        copy.result = tree.result == null ? null : with(tree.result, texts);
        copy.thrown = withAll(tree.thrown, texts);
        return copy;
    }

    private static List<String> names(Tree tree) {
        List<String> all = new ArrayList<>();
        for (Parameter p : tree.parameters) {
            all.add(p.name());
        }
        return all;
    }

    // The calls.

    private boolean isMade(int signature) {
        return signature >= 0 && signature < made.size();
    }

    int type(int code) {
        if (code < 33 || code > 126 || line.length() == 40) {
            return REFUSED;
        }
        line.append((char) code);
        return line.length();
    }

    void clear() {
        line.setLength(0);
    }

    int read(int kind) {
        if (kind < 0 || kind > 2) {
            return REFUSED;
        }
        int fault = Grammar.fault(line.toString(), kind);
        if (fault >= 0) {
            return -1 - fault;
        }
        if (made.size() == 24) {
            return REFUSED;
        }
        made.add(new Maker(line.toString()).tree(kind));
        clear();
        return made.size() - 1;
    }

    int scope(int signature, int scope) {
        if (!isMade(signature) || scope == signature) {
            return REFUSED;
        }
        if (scope != -1 && (!isMade(scope) || made.get(scope).kind != 0)) {
            return REFUSED;
        }
        int before = made.get(signature).scope;
        made.get(signature).scope = scope;
        return before;
    }

    int kind(int signature) {
        return isMade(signature) ? made.get(signature).kind : REFUSED;
    }

    int text(int signature, int what, int index) {
        String text = textOf(signature, what);
        return text == null || index < 0 || index >= text.length() ? -1 : text.charAt(index);
    }

    int length(int signature, int what) {
        String text = textOf(signature, what);
        return text == null ? REFUSED : text.length();
    }

    int alike(int a, int b) {
        if (!isMade(a) || !isMade(b)) {
            return REFUSED;
        }
        Tree first = made.get(a);
        Tree second = made.get(b);
        if (first.kind != second.kind || first.parameters.size() != second.parameters.size()) {
            return 0;
        }
        Map<String, String> texts = new HashMap<>();
        for (int i = 0; i < first.parameters.size(); i++) {
            texts.put(second.parameters.get(i).name(), "T" + first.parameters.get(i).name() + ";");
        }
        Tree renamed = with(second, texts, names(first));
        if (!written(renamed).equals(written(first))) {
            return 0;
        }
        List<Type> firstTypes = every(first);
        List<Type> secondTypes = every(second);
        for (int i = 0; i < firstTypes.size(); i++) {
            boolean firstOwn = first.named(firstTypes.get(i).variable) != null;
            if (firstOwn != (second.named(secondTypes.get(i).variable) != null)) {
                return 0;
            }
        }
        return 1;
    }

    int clash(int a, int b) {
        if (kind(a) != 1 || kind(b) != 1) {
            return REFUSED;
        }
        return erasedTypes(made.get(a)).equals(erasedTypes(made.get(b))) ? 1 : 0;
    }

    int fill(int signature, int k, int field) {
        if (!isMade(signature) || kind(field) != 2 || made.size() == 24) {
            return REFUSED;
        }
        Tree old = made.get(signature);
        if (k < 0 || k >= old.parameters.size()) {
            return REFUSED;
        }
        Type filling = made.get(field).types.get(0);
        for (Type t : old.thrown) {
            if (old.parameters.get(k).name().equals(t.variable) && filling.element != null) {
                return REFUSED;
            }
        }
        Tree filled = with(old, Map.of(old.parameters.get(k).name(), written(filling)), names(old));
        filled.parameters.remove(k);
        for (int i = 0; i + 1 < filled.parameters.size(); i++) {
            char initial = filled.parameters.get(i + 1).name().charAt(0);
            if (filled.parameters.get(i).bounds().isEmpty() && (initial == 'L' || initial == 'T')) {
                return REFUSED;
            }
        }
        if (written(filled).length() > 120) {
            return REFUSED;
        }
        made.add(filled);
        return made.size() - 1;
    }

    int parameters(int signature) {
        return isMade(signature) ? made.get(signature).parameters.size() : REFUSED;
    }

    int bounds(int signature, int k) {
        boolean there = k >= 0 && k < parameters(signature);
        return there ? made.get(signature).parameters.get(k).bounds().size() : REFUSED;
    }

    int measure(int signature, int what) {
        if (!isMade(signature) || what < 0 || what > 5) {
            return REFUSED;
        }
        Tree tree = made.get(signature);
        Tree scope = scopeOf(tree);
        int[] answers = new int[6];
        for (Type t : every(tree)) {
            if (t.variable != null) {
                boolean outer = scope != null && scope.named(t.variable) != null;
                answers[tree.named(t.variable) != null ? 1 : outer ? 2 : 0]++;
            }
            answers[3] += t.segments.isEmpty() ? 0 : 1;
            answers[4] = Math.max(answers[4], depth(t));
            answers[5] = Math.max(answers[5], brackets(t));
        }
        return answers[what];
    }

    int count(int what) {
        return what == 0 ? made.size() : what == 1 ? line.length() : REFUSED;
    }
}
