import java.util.ArrayList;
import java.util.List;
import java.util.Set;
import java.util.TreeSet;

/**
 * The document's grammar taken word for word: every rule answers all the places where it can end.
 * A text can go on to be a signature if some rule asks for a character at its end, since every
 * rule can be completed.
 */
final class Grammar {
    private final String text;
    private boolean askedAtEnd;

    private Grammar(String text) {
        this.text = text;
    }

    /** The place of the fault, or -1. */
    static int fault(String text, int kind) {
        for (int size = 0; size <= text.length(); size++) {
            Grammar part = new Grammar(text.substring(0, size));
            boolean whole = part.signature(kind).contains(size);
            if (size == text.length()) {
                return whole ? -1 : part.askedAtEnd ? size : size - 1;
            }
            if (!whole && !part.askedAtEnd) {
                return size - 1;
            }
        }
        return -1;
    }

    private Set<Integer> sign(int from, String allowed) {
        Set<Integer> ends = new TreeSet<>();
        if (from >= text.length()) {
            askedAtEnd = true;
        } else if (allowed.indexOf(text.charAt(from)) >= 0) {
            ends.add(from + 1);
        }
        return ends;
    }

    private Set<Integer> sign(Set<Integer> from, String allowed) {
        Set<Integer> ends = new TreeSet<>();
        for (int place : from) {
            ends.addAll(sign(place, allowed));
        }
        return ends;
    }

    private interface Rule {
        Set<Integer> ends(int from);
    }

    private static Set<Integer> each(Set<Integer> from, Rule rule) {
        Set<Integer> ends = new TreeSet<>();
        for (int place : from) {
            ends.addAll(rule.ends(place));
        }
        return ends;
    }

    private static Set<Integer> noneOrMore(Set<Integer> from, Rule rule) {
        Set<Integer> all = new TreeSet<>(from);
        Set<Integer> fresh = from;
        while (!fresh.isEmpty()) {
            fresh = each(fresh, rule);
            fresh.removeAll(all);
            all.addAll(fresh);
        }
        return all;
    }

    private static Set<Integer> noneOrOne(Set<Integer> from, Rule rule) {
        Set<Integer> all = new TreeSet<>(from);
        all.addAll(each(from, rule));
        return all;
    }

    @SafeVarargs
    private static Set<Integer> either(Set<Integer>... ways) {
        Set<Integer> all = new TreeSet<>();
        for (Set<Integer> way : ways) {
            all.addAll(way);
        }
        return all;
    }

    private Set<Integer> signature(int kind) {
        if (kind == 2) {
            return reference(0);
        }
        Set<Integer> body = either(Set.of(0), parameters(0));
        if (kind == 0) {
            return noneOrMore(each(body, this::klass), this::klass);
        }
        Set<Integer> types = sign(noneOrMore(sign(body, "("), this::type), ")");
        Set<Integer> result = either(each(types, this::type), sign(types, "V"));
        return noneOrMore(result, at -> {
            Set<Integer> behind = sign(at, "^");
            return either(each(behind, this::klass), each(behind, this::variable));
        });
    }

    private Set<Integer> type(int from) {
        return either(sign(from, "BCDFIJSZ"), reference(from));
    }

    private Set<Integer> reference(int from) {
        return either(klass(from), variable(from), each(sign(from, "["), this::type));
    }

    private Set<Integer> variable(int from) {
        return sign(each(sign(from, "T"), this::name), ";");
    }

    private Set<Integer> klass(int from) {
        Set<Integer> packages = noneOrMore(sign(from, "L"), at -> sign(name(at), "/"));
        Set<Integer> segments = each(packages, this::segment);
        return sign(noneOrMore(segments, at -> each(sign(at, "."), this::segment)), ";");
    }

    private Set<Integer> segment(int from) {
        return noneOrOne(name(from), this::arguments);
    }

    private Set<Integer> arguments(int from) {
        Set<Integer> first = each(sign(from, "<"), this::argument);
        return sign(noneOrMore(first, this::argument), ">");
    }

    private Set<Integer> argument(int from) {
        return either(sign(from, "*"), reference(from), each(sign(from, "+-"), this::reference));
    }

    private Set<Integer> name(int from) {
        return noneOrMore(nameLetter(from), this::nameLetter);
    }

    private Set<Integer> nameLetter(int from) {
        Set<Integer> ends = new TreeSet<>();
        if (from >= text.length()) {
            askedAtEnd = true;
        } else if (".;/:<>[".indexOf(text.charAt(from)) < 0) {
            ends.add(from + 1);
        }
        return ends;
    }

    /** Parameters one by one with the names before them, since a name must be a new one. */
    private Set<Integer> parameters(int from) {
        Set<Integer> ends = new TreeSet<>();
        for (int place : sign(from, "<")) {
            moreParameters(place, new ArrayList<>(), ends);
        }
        return ends;
    }

    private void moreParameters(int from, List<String> earlier, Set<Integer> ends) {
        for (int nameEnd : name(from)) {
            String own = text.substring(from, nameEnd);
            if (earlier.contains(own)) {
                // Another letter may make the name a new one, but no : can stand here.
                continue;
            }
            for (int colon : sign(nameEnd, ":")) {
                List<String> names = new ArrayList<>(earlier);
                names.add(own);
                for (int end : bounds(colon)) {
                    ends.addAll(sign(end, ">"));
                    moreParameters(end, names, ends);
                }
            }
        }
    }

    private Set<Integer> bounds(int from) {
        boolean mustBegin = from < text.length() && "LT[".indexOf(text.charAt(from)) >= 0;
        Set<Integer> first = mustBegin ? reference(from) : either(Set.of(from), reference(from));
        return noneOrMore(first, at -> each(sign(at, ":"), this::reference));
    }
}
