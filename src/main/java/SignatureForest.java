/**
 * Generic signatures of classes, methods and fields: read from their text, shown as source shows
 * them, erased, compared up to the names of their own type parameters, and filled in.
 *
 * <p>A signature is kept as its text and one role for each character. The roles make every
 * question about a signature a walk from left to right, so that nothing here calls itself.
 */
public final class SignatureForest {
    public static final int REFUSED = -100;

    private static final int NONE = -1;

    private static final int CLASS_KIND = 0;
    private static final int METHOD_KIND = 1;
    private static final int FIELD_KIND = 2;

    private static final int WRITTEN = 0;
    private static final int SHOWN = 1;
    private static final int ERASED = 2;

    private static final int MOST_IN_LINE = 40;
    private static final int MOST_WRITTEN = 120;
    private static final int MOST_SIGNATURES = 24;

    // One erased TYPE takes each character of its signature and of the scope at most once, and
    // then at most the name of Object.
    private static final int MOST_ERASED_TYPE = 260;

    private static final String OBJECT = "Ljava/lang/Object;";

    // The roles of characters. Behind each role only certain others can stand, so the role of the
    // last character read is also the state of the reader.
    private static final int NOTHING = 0;
    private static final int PARAMETERS_OPEN = 1;
    private static final int PARAMETER_NAME = 2;
    private static final int FIRST_COLON = 3;
    private static final int NEXT_COLON = 4;
    private static final int PARAMETERS_CLOSE = 5;
    private static final int VARIABLE_OPEN = 6;
    private static final int VARIABLE_NAME = 7;
    private static final int VARIABLE_CLOSE = 8;
    private static final int CLASS_OPEN = 9;
    private static final int CLASS_NAME = 10;
    private static final int PACKAGE_SLASH = 11;
    private static final int SEGMENT_DOT = 12;
    private static final int SEGMENT_NAME = 13;
    private static final int CLASS_CLOSE = 14;
    private static final int ARGUMENTS_OPEN = 15;
    private static final int ARGUMENTS_CLOSE = 16;
    private static final int WILDCARD = 17;
    private static final int ARGUMENT_SIGN = 18;
    private static final int ARRAY = 19;
    private static final int BASE = 20;
    private static final int VOID = 21;
    private static final int TYPES_OPEN = 22;
    private static final int TYPES_CLOSE = 23;
    private static final int THROWS_SIGN = 24;

    private final Row line;
    private final Row draft;
    private final Reader reader;
    private final Seeker seeker;
    private final Shower shower;
    private final Eraser eraser;
    private final Eraser otherEraser;
    private final Signature[] made;
    private int madeCount;

    public SignatureForest() {
        line = new Row(MOST_IN_LINE);
        draft = new Row(MOST_WRITTEN);
        reader = new Reader();
        seeker = new Seeker();
        shower = new Shower();
        eraser = new Eraser();
        otherEraser = new Eraser();
        made = new Signature[MOST_SIGNATURES];
    }

    public int type(int code) {
        if (code < 33 || code > 126 || !line.add((char) code)) {
            return REFUSED;
        }
        return line.size;
    }

    public void clear() {
        line.size = 0;
    }

    public int read(int kind) {
        if (kind < CLASS_KIND || kind > FIELD_KIND) {
            return REFUSED;
        }
        int fault = reader.faultOf(line, kind);
        if (fault != NONE) {
            return -1 - fault;
        }
        int number = keep(line, NONE);
        if (number != REFUSED) {
            line.size = 0;
        }
        return number;
    }

    public int scope(int signature, int scope) {
        Signature inner = find(signature);
        if (inner == null) {
            return REFUSED;
        }
        if (scope != NONE) {
            Signature outer = find(scope);
            if (outer == null || scope == signature || outer.sort != CLASS_KIND) {
                return REFUSED;
            }
        }
        int before = inner.scopeNumber;
        inner.scopeNumber = scope;
        return before;
    }

    public int kind(int signature) {
        Signature found = find(signature);
        return found == null ? REFUSED : found.sort;
    }

    public int text(int signature, int what, int index) {
        Signature found = find(signature);
        if (found == null || index < 0) {
            return NONE;
        }
        return seek(found, what, index) ? seeker.found : NONE;
    }

    public int length(int signature, int what) {
        Signature found = find(signature);
        if (found == null) {
            return REFUSED;
        }
        return seek(found, what, NONE) ? seeker.passed : REFUSED;
    }

    public int alike(int a, int b) {
        Signature first = find(a);
        Signature second = find(b);
        if (first == null || second == null) {
            return REFUSED;
        }
        boolean sameFrame = first.sort == second.sort
                && first.nameStarts.length == second.nameStarts.length;
        return sameFrame && becomes(second, first) ? 1 : 0;
    }

    public int clash(int a, int b) {
        Signature first = find(a);
        Signature second = find(b);
        if (first == null || second == null) {
            return REFUSED;
        }
        if (first.sort != METHOD_KIND || second.sort != METHOD_KIND) {
            return REFUSED;
        }
        return sameErasedTypes(first, second) ? 1 : 0;
    }

    public int fill(int signature, int k, int field) {
        Signature old = find(signature);
        Signature filling = find(field);
        if (old == null || filling == null) {
            return REFUSED;
        }
        if (!old.hasParameter(k) || filling.sort != FIELD_KIND || !writeFilled(old, k, filling)) {
            return REFUSED;
        }
        // An ARRAY behind ^ is a fault, and so is a name with L or T taken for the beginning of a
        // bound, since the : behind it ends no bound: the reader finds what must be refused.
        if (reader.faultOf(draft, old.sort) != NONE) {
            return REFUSED;
        }
        return keep(draft, old.scopeNumber);
    }

    public int parameters(int signature) {
        Signature found = find(signature);
        return found == null ? REFUSED : found.nameStarts.length;
    }

    public int bounds(int signature, int k) {
        Signature found = find(signature);
        if (found == null || !found.hasParameter(k)) {
            return REFUSED;
        }
        return found.boundCount(k);
    }

    public int measure(int signature, int what) {
        Signature found = find(signature);
        if (found == null) {
            return REFUSED;
        }
        switch (what) {
            case 0:
            case 1:
            case 2:
                return variablesDeclared(found, what);
            case 3:
                return found.classCount();
            case 4:
                return found.argumentDepth();
            case 5:
                return found.longestBrackets();
            default:
                return REFUSED;
        }
    }

    public int count(int what) {
        if (what == 0) {
            return madeCount;
        }
        return what == 1 ? line.size : REFUSED;
    }

    private Signature find(int number) {
        return number >= 0 && number < madeCount ? made[number] : null;
    }

    /** Makes a signature of the text that the reader has just read without a fault. */
    private int keep(Row text, int scopeNumber) {
        if (madeCount >= MOST_SIGNATURES) {
            return REFUSED;
        }
        made[madeCount] = new Signature(text, reader, scopeNumber);
        madeCount++;
        return madeCount - 1;
    }

    /** Lets the seeker walk through the text; false if there is no such text. */
    private boolean seek(Signature signature, int what, int index) {
        seeker.start(index);
        switch (what) {
            case WRITTEN:
                seeker.passRow(signature.letters, signature.letters.length);
                return true;
            case SHOWN:
                shower.show(signature, seeker);
                return true;
            case ERASED:
                passErased(signature);
                return true;
            default:
                return false;
        }
    }

    private void passErased(Signature signature) {
        Signature outer = find(signature.scopeNumber);
        int next = signature.bodyStart;
        for (int place = next; place < signature.letters.length; place++) {
            int role = signature.roleAt(place);
            if (role == THROWS_SIGN) {
                return;
            }
            if (role == TYPES_OPEN || role == TYPES_CLOSE) {
                seeker.pass(signature.letterAt(place));
                next = place + 1;
            } else if (place == next) {
                eraser.erase(signature, outer, place);
                seeker.passRow(eraser.erased.letters, eraser.erased.size);
                next = signature.behindType(place);
            }
        }
    }

    /** True if the second text, with its own parameters renamed, is the first one. */
    private static boolean becomes(Signature second, Signature first) {
        int other = 0;
        int next = 0;
        for (int place = 0; place < second.letters.length; place++) {
            if (place < next) {
                continue;
            }
            int k = second.ownNameAt(place);
            if (k != NONE) {
                if (!first.repeatsName(k, other)) {
                    return false;
                }
                other += first.nameLength(k);
                next = second.behindName(place);
            } else {
                boolean ownHere = second.declarerAt(place) != NONE;
                boolean ownThere = first.declarerAt(other) != NONE;
                if (second.letterAt(place) != first.letterAt(other) || ownHere != ownThere) {
                    return false;
                }
                other++;
            }
        }
        return other == first.letters.length;
    }

    private boolean sameErasedTypes(Signature first, Signature second) {
        Signature firstOuter = find(first.scopeNumber);
        Signature secondOuter = find(second.scopeNumber);
        int place = first.bodyStart + 1;
        int other = second.bodyStart + 1;
        for (int turn = 0; turn < MOST_WRITTEN; turn++) {
            boolean firstEnds = first.roleAt(place) == TYPES_CLOSE;
            boolean secondEnds = second.roleAt(other) == TYPES_CLOSE;
            if (firstEnds || secondEnds) {
                return firstEnds && secondEnds;
            }
            eraser.erase(first, firstOuter, place);
            otherEraser.erase(second, secondOuter, other);
            if (!eraser.erased.holdsSameAs(otherEraser.erased)) {
                return false;
            }
            place = first.behindType(place);
            other = second.behindType(other);
        }
        return false;
    }

    /** Writes the filled text into the draft; false if it is too long. */
    private boolean writeFilled(Signature old, int k, Signature filling) {
        // A lone parameter takes the signs around it along.
        boolean alone = old.nameStarts.length == 1;
        int cutStart = alone ? 0 : old.nameStarts[k];
        int cutEnd = alone ? old.bodyStart : old.parameterEnd(k);
        int next = 0;
        draft.size = 0;
        for (int place = 0; place < old.letters.length; place++) {
            if (place < next || (place >= cutStart && place < cutEnd)) {
                continue;
            }
            boolean fits;
            if (old.declarerAt(place) == k) {
                fits = draft.addAll(filling.letters);
                next = old.behindType(place);
            } else {
                fits = draft.add(old.letterAt(place));
            }
            if (!fits) {
                return false;
            }
        }
        return true;
    }

    /** How many VARIABLEs are free (0), the signature's own (1) or its scope's (2). */
    private int variablesDeclared(Signature signature, int by) {
        Signature outer = find(signature.scopeNumber);
        int sum = 0;
        for (int place = 0; place < signature.letters.length; place++) {
            if (signature.roleAt(place) != VARIABLE_OPEN) {
                continue;
            }
            int found = 0;
            if (signature.declarerAt(place) != NONE) {
                found = 1;
            } else if (outer != null && outer.parameterNamed(signature, place + 1) != NONE) {
                found = 2;
            }
            if (found == by) {
                sum++;
            }
        }
        return sum;
    }

    private static boolean beginsReference(int role) {
        return role == CLASS_OPEN || role == VARIABLE_OPEN || role == ARRAY;
    }

    private static boolean beginsItem(int role) {
        return beginsReference(role) || role == BASE || role == WILDCARD || role == ARGUMENT_SIGN;
    }

    private static boolean endsItem(int role) {
        return role == CLASS_CLOSE || role == VARIABLE_CLOSE || role == BASE || role == VOID
                || role == WILDCARD;
    }

    /** Characters one after another, up to a limit. */
    private static final class Row {
        private final char[] letters;
        private int size;

        Row(int limit) {
            letters = new char[limit];
        }

        boolean add(char letter) {
            if (size >= letters.length) {
                return false;
            }
            letters[size] = letter;
            size++;
            return true;
        }

        boolean addAll(char[] more) {
            if (more.length > letters.length - size) {
                return false;
            }
            System.arraycopy(more, 0, letters, size, more.length);
            size += more.length;
            return true;
        }

        void addText(String more) {
            for (int i = 0; i < more.length(); i++) {
                add(more.charAt(i));
            }
        }

        boolean holdsSameAs(Row other) {
            if (size != other.size) {
                return false;
            }
            for (int i = 0; i < size && i < letters.length && i < other.letters.length; i++) {
                if (letters[i] != other.letters[i]) {
                    return false;
                }
            }
            return true;
        }
    }

    /** Lets a text pass by without keeping it: counts it and holds on to one character. */
    private static final class Seeker {
        private int wanted;
        private int passed;
        private int found;

        void start(int place) {
            wanted = place;
            passed = 0;
            found = NONE;
        }

        void pass(char letter) {
            if (passed == wanted) {
                found = letter;
            }
            passed++;
        }

        void passText(String letters) {
            for (int i = 0; i < letters.length(); i++) {
                pass(letters.charAt(i));
            }
        }

        void passRow(char[] letters, int size) {
            int inside = wanted - passed;
            if (inside >= 0 && inside < size && inside < letters.length) {
                found = letters[inside];
            }
            passed += size;
        }
    }

    /** Gives each character of a text its role, up to the first that has none. */
    private static final class Reader {
        private static final int IN_PARAMETERS = 0;
        private static final int IN_BODY = 1;
        private static final int IN_TYPES = 2;
        private static final int IN_RESULT = 3;

        private final int[] roles;
        private final int[] nameStarts;
        private final int[] nameEnds;
        private int nameCount;
        private int sort;
        private int section;
        private int depth;
        private int last;

        Reader() {
            roles = new int[MOST_WRITTEN];
            nameStarts = new int[MOST_WRITTEN];
            nameEnds = new int[MOST_WRITTEN];
        }

        /** The place of the fault, or NONE. */
        int faultOf(Row text, int kindAsked) {
            sort = kindAsked;
            nameCount = 0;
            section = IN_BODY;
            depth = 0;
            last = NOTHING;
            for (int place = 0; place < text.size && place < roles.length; place++) {
                int role = roleOf(text.letters[place]);
                if (role == NOTHING || role == FIRST_COLON && nameIsTaken(text)) {
                    return place;
                }
                take(role, place);
            }
            return mayEnd() ? NONE : text.size;
        }

        private void take(int role, int place) {
            switch (role) {
                case PARAMETERS_OPEN:
                    section = IN_PARAMETERS;
                    break;
                case PARAMETERS_CLOSE:
                    section = IN_BODY;
                    break;
                case TYPES_OPEN:
                    section = IN_TYPES;
                    break;
                case TYPES_CLOSE:
                    section = IN_RESULT;
                    break;
                case ARGUMENTS_OPEN:
                    depth++;
                    break;
                case ARGUMENTS_CLOSE:
                    depth--;
                    break;
                case PARAMETER_NAME:
                    noteName(place);
                    break;
                default:
                    break;
            }
            roles[place] = role;
            last = role;
        }

        private void noteName(int place) {
            if (last != PARAMETER_NAME && nameCount < nameStarts.length) {
                nameStarts[nameCount] = place;
                nameCount++;
            }
            if (nameCount > 0) {
                nameEnds[nameCount - 1] = place + 1;
            }
        }

        private boolean mayEnd() {
            boolean complete = section == IN_RESULT || section == IN_BODY && sort != METHOD_KIND;
            return complete && depth == 0 && endsItem(last);
        }

        /** True if the last name is also that of an earlier parameter. */
        private boolean nameIsTaken(Row text) {
            for (int k = 0; k < nameCount - 1; k++) {
                if (sameName(text, k, nameCount - 1)) {
                    return true;
                }
            }
            return false;
        }

        private boolean sameName(Row text, int k, int other) {
            int size = nameEnds[k] - nameStarts[k];
            if (size != nameEnds[other] - nameStarts[other]) {
                return false;
            }
            for (int i = 0; i < size; i++) {
                if (text.letters[nameStarts[k] + i] != text.letters[nameStarts[other] + i]) {
                    return false;
                }
            }
            return true;
        }

        private int roleOf(char letter) {
            switch (last) {
                case NOTHING:
                    return atStart(letter);
                case PARAMETERS_OPEN:
                    return nameOnly(letter, PARAMETER_NAME);
                case PARAMETER_NAME:
                    return letter == ':' ? FIRST_COLON : nameOnly(letter, PARAMETER_NAME);
                case FIRST_COLON:
                    return behindFirstColon(letter);
                case PARAMETERS_CLOSE:
                    return atBody(letter);
                case NEXT_COLON:
                case ARGUMENT_SIGN:
                    return reference(letter);
                case VARIABLE_OPEN:
                    return nameOnly(letter, VARIABLE_NAME);
                case VARIABLE_NAME:
                    return letter == ';' ? VARIABLE_CLOSE : nameOnly(letter, VARIABLE_NAME);
                case CLASS_OPEN:
                case PACKAGE_SLASH:
                    return nameOnly(letter, CLASS_NAME);
                case CLASS_NAME:
                    return letter == '/' ? PACKAGE_SLASH : inSegment(letter, CLASS_NAME);
                case SEGMENT_DOT:
                    return nameOnly(letter, SEGMENT_NAME);
                case SEGMENT_NAME:
                    return inSegment(letter, SEGMENT_NAME);
                case ARGUMENTS_OPEN:
                    return argument(letter);
                case ARGUMENTS_CLOSE:
                    return behindArguments(letter);
                case ARRAY:
                    return typeOnly(letter);
                case TYPES_OPEN:
                    return inTypes(letter);
                case TYPES_CLOSE:
                    return letter == 'V' ? VOID : typeOnly(letter);
                case THROWS_SIGN:
                    return letter == '[' ? NOTHING : reference(letter);
                default:
                    return behindItem(letter);
            }
        }

        private int atStart(char letter) {
            if (sort == FIELD_KIND) {
                return reference(letter);
            }
            return letter == '<' ? PARAMETERS_OPEN : atBody(letter);
        }

        private int atBody(char letter) {
            if (sort == METHOD_KIND) {
                return letter == '(' ? TYPES_OPEN : NOTHING;
            }
            return letter == 'L' ? CLASS_OPEN : NOTHING;
        }

        private int behindItem(char letter) {
            if (depth > 0) {
                return letter == '>' ? ARGUMENTS_CLOSE : argument(letter);
            }
            switch (section) {
                case IN_PARAMETERS:
                    return behindBound(letter);
                case IN_TYPES:
                    return inTypes(letter);
                case IN_RESULT:
                    return letter == '^' ? THROWS_SIGN : NOTHING;
                default:
                    return sort == CLASS_KIND && letter == 'L' ? CLASS_OPEN : NOTHING;
            }
        }

        private static int behindFirstColon(char letter) {
            int role = reference(letter);
            return role == NOTHING ? behindBound(letter) : role;
        }

        private static int behindBound(char letter) {
            if (letter == ':') {
                return NEXT_COLON;
            }
            return letter == '>' ? PARAMETERS_CLOSE : nameOnly(letter, PARAMETER_NAME);
        }

        private static int inTypes(char letter) {
            return letter == ')' ? TYPES_CLOSE : typeOnly(letter);
        }

        private static int inSegment(char letter, int nameRole) {
            return letter == '<' ? ARGUMENTS_OPEN : closingOr(letter, nameOnly(letter, nameRole));
        }

        private static int behindArguments(char letter) {
            return closingOr(letter, NOTHING);
        }

        private static int closingOr(char letter, int otherwise) {
            if (letter == '.') {
                return SEGMENT_DOT;
            }
            return letter == ';' ? CLASS_CLOSE : otherwise;
        }

        private static int argument(char letter) {
            if (letter == '*') {
                return WILDCARD;
            }
            return letter == '+' || letter == '-' ? ARGUMENT_SIGN : reference(letter);
        }

        private static int typeOnly(char letter) {
            return "BCDFIJSZ".indexOf(letter) >= 0 ? BASE : reference(letter);
        }

        private static int reference(char letter) {
            switch (letter) {
                case 'L':
                    return CLASS_OPEN;
                case 'T':
                    return VARIABLE_OPEN;
                case '[':
                    return ARRAY;
                default:
                    return NOTHING;
            }
        }

        private static int nameOnly(char letter, int nameRole) {
            return ".;/:<>[".indexOf(letter) >= 0 ? NOTHING : nameRole;
        }
    }

    /** A signature: its text as written, and what each character of it is. */
    private static final class Signature {
        private final int sort;
        private final char[] letters;
        private final int[] roles;
        private final int[] nameStarts;
        private final int[] nameEnds;
        private final int bodyStart;
        private int scopeNumber;

        Signature(Row text, Reader reader, int scope) {
            sort = reader.sort;
            letters = new char[text.size];
            System.arraycopy(text.letters, 0, letters, 0, letters.length);
            roles = new int[text.size];
            System.arraycopy(reader.roles, 0, roles, 0, roles.length);
            nameStarts = new int[reader.nameCount];
            System.arraycopy(reader.nameStarts, 0, nameStarts, 0, nameStarts.length);
            nameEnds = new int[reader.nameCount];
            System.arraycopy(reader.nameEnds, 0, nameEnds, 0, nameEnds.length);
            scopeNumber = scope;
            int body = 0;
            for (int place = 0; place < roles.length; place++) {
                if (roles[place] == PARAMETERS_CLOSE) {
                    body = place + 1;
                }
            }
            bodyStart = body;
        }

        int roleAt(int place) {
            return place >= 0 && place < roles.length ? roles[place] : NOTHING;
        }

        char letterAt(int place) {
            return place >= 0 && place < letters.length ? letters[place] : 0;
        }

        boolean hasParameter(int k) {
            return k >= 0 && k < nameStarts.length;
        }

        int nameStart(int k) {
            return hasParameter(k) ? nameStarts[k] : letters.length;
        }

        int nameLength(int k) {
            return hasParameter(k) ? nameEnds[k] - nameStarts[k] : 0;
        }

        /** The place behind the name that begins at the place. */
        int behindName(int place) {
            int role = roleAt(place);
            int end = place;
            while (end < roles.length && roleAt(end) == role) {
                end++;
            }
            return end;
        }

        int parameterEnd(int k) {
            return k + 1 < nameStarts.length ? nameStart(k + 1) : bodyStart - 1;
        }

        int boundCount(int k) {
            int sum = 0;
            for (int place = nameStart(k); place < parameterEnd(k); place++) {
                int role = roleAt(place);
                boolean firstIsThere = role == FIRST_COLON && beginsReference(roleAt(place + 1));
                if (role == NEXT_COLON || firstIsThere) {
                    sum++;
                }
            }
            return sum;
        }

        /** Where the first bound begins, or NONE. */
        int firstBound(int k) {
            int behind = nameStart(k) + nameLength(k) + 1;
            if (roleAt(behind) == NEXT_COLON) {
                return behind + 1;
            }
            return beginsReference(roleAt(behind)) ? behind : NONE;
        }

        /** The parameter with the name that begins at the place in that signature, or NONE. */
        int parameterNamed(Signature named, int place) {
            int size = named.behindName(place) - place;
            for (int k = 0; k < nameStarts.length; k++) {
                if (nameLength(k) == size && sameLetters(nameStarts[k], named, place, size)) {
                    return k;
                }
            }
            return NONE;
        }

        private boolean sameLetters(int place, Signature other, int otherPlace, int size) {
            for (int i = 0; i < size; i++) {
                if (letterAt(place + i) != other.letterAt(otherPlace + i)) {
                    return false;
                }
            }
            return true;
        }

        boolean repeatsName(int k, int place) {
            return sameLetters(nameStart(k), this, place, nameLength(k));
        }

        /** The own parameter that declares the VARIABLE that begins at the place, or NONE. */
        int declarerAt(int place) {
            return roleAt(place) == VARIABLE_OPEN ? parameterNamed(this, place + 1) : NONE;
        }

        /** The own parameter whose name begins at the place, also in a VARIABLE, or NONE. */
        int ownNameAt(int place) {
            int role = roleAt(place);
            boolean isName = role == PARAMETER_NAME || role == VARIABLE_NAME;
            return isName && roleAt(place - 1) != role ? parameterNamed(this, place) : NONE;
        }

        /** The place behind the TYPE, or the V, that begins at the place. */
        int behindType(int place) {
            int open = 0;
            for (int at = place; at < roles.length; at++) {
                int role = roleAt(at);
                if (role == ARGUMENTS_OPEN) {
                    open++;
                } else if (role == ARGUMENTS_CLOSE) {
                    open--;
                } else if (open == 0 && endsItem(role)) {
                    return at + 1;
                }
            }
            return roles.length;
        }

        int classCount() {
            int sum = 0;
            for (int place = 0; place < roles.length; place++) {
                if (roleAt(place) == CLASS_OPEN) {
                    sum++;
                }
            }
            return sum;
        }

        int argumentDepth() {
            int depth = 0;
            int deepest = 0;
            for (int place = 0; place < roles.length; place++) {
                int role = roleAt(place);
                if (role == ARGUMENTS_OPEN) {
                    depth++;
                } else if (role == ARGUMENTS_CLOSE) {
                    depth--;
                }
                deepest = Math.max(deepest, depth);
            }
            return deepest;
        }

        int longestBrackets() {
            int run = 0;
            int longest = 0;
            for (int place = 0; place < roles.length; place++) {
                run = roleAt(place) == ARRAY ? run + 1 : 0;
                longest = Math.max(longest, run);
            }
            return longest;
        }
    }

    /** Lets the text of a signature as source shows it pass by a seeker. */
    private static final class Shower {
        // The brackets of an ARRAY are shown behind its TYPE, so those that were met wait here,
        // for each depth of arguments by itself.
        private final int[] waiting;
        private int depth;
        private boolean classPassed;
        private boolean thrownPassed;

        Shower() {
            waiting = new int[MOST_WRITTEN];
        }

        void show(Signature signature, Seeker out) {
            depth = 0;
            waiting[0] = 0;
            classPassed = false;
            thrownPassed = false;
            for (int place = 0; place < signature.letters.length; place++) {
                int role = signature.roleAt(place);
                part(signature, place, role, out);
                showLetter(signature, place, role, out);
            }
        }

        private void part(Signature signature, int place, int role, Seeker out) {
            int before = signature.roleAt(place - 1);
            if (endsItem(before) && beginsItem(role)) {
                out.pass(partingItems(signature));
            } else if (role == PARAMETER_NAME && before != PARAMETER_NAME
                    && before != PARAMETERS_OPEN) {
                out.pass(',');
            }
        }

        private char partingItems(Signature signature) {
            if (signature.sort != CLASS_KIND || depth > 0 || classPassed) {
                return ',';
            }
            classPassed = true;
            return ':';
        }

        private void showLetter(Signature signature, int place, int role, Seeker out) {
            char letter = signature.letterAt(place);
            switch (role) {
                case VARIABLE_OPEN:
                case CLASS_OPEN:
                    break;
                case VARIABLE_CLOSE:
                case CLASS_CLOSE:
                    showWaiting(out);
                    break;
                case BASE:
                case VOID:
                    out.passText(wordOf(letter));
                    showWaiting(out);
                    break;
                case ARRAY:
                    waiting[depth]++;
                    break;
                case PACKAGE_SLASH:
                case SEGMENT_DOT:
                    out.pass('.');
                    break;
                case WILDCARD:
                    out.pass('?');
                    break;
                case ARGUMENT_SIGN:
                    out.pass('?');
                    out.pass(letter);
                    break;
                case FIRST_COLON:
                case NEXT_COLON:
                    showColon(signature, place, role, out);
                    break;
                case THROWS_SIGN:
                    out.pass(thrownPassed ? ',' : '^');
                    thrownPassed = true;
                    break;
                default:
                    changeDepth(role);
                    out.pass(letter);
                    break;
            }
        }

        private void changeDepth(int role) {
            if (role == ARGUMENTS_OPEN && depth + 1 < waiting.length) {
                depth++;
                waiting[depth] = 0;
            } else if (role == ARGUMENTS_CLOSE && depth > 0) {
                depth--;
            }
        }

        private void showWaiting(Seeker out) {
            for (int i = 0; i < waiting[depth]; i++) {
                out.passText("[]");
            }
            waiting[depth] = 0;
        }

        private static void showColon(Signature signature, int place, int role, Seeker out) {
            if (role == NEXT_COLON) {
                if (signature.roleAt(place - 1) != FIRST_COLON) {
                    out.pass('&');
                }
                return;
            }
            int behind = signature.roleAt(place + 1);
            if (behind == NEXT_COLON || beginsReference(behind)) {
                out.pass(':');
            }
        }

        private static String wordOf(char letter) {
            switch (letter) {
                case 'B':
                    return "byte";
                case 'C':
                    return "char";
                case 'D':
                    return "double";
                case 'F':
                    return "float";
                case 'I':
                    return "int";
                case 'J':
                    return "long";
                case 'S':
                    return "short";
                case 'Z':
                    return "boolean";
                default:
                    return "void";
            }
        }
    }

    /** Erases one TYPE at a time. */
    private static final class Eraser {
        private final Row erased;

        Eraser() {
            erased = new Row(MOST_ERASED_TYPE);
        }

        /**
         * An erased CLASS has no arguments, so only first bounds lead on from a TYPE, one after
         * another: a chain, which ends at the first parameter that it meets again.
         */
        void erase(Signature signature, Signature scope, int start) {
            erased.size = 0;
            Signature home = signature;
            Signature outer = scope;
            int place = start;
            long opened = 0L;
            for (int step = 0; step <= 2 * MOST_WRITTEN; step++) {
                place = eraseBrackets(home, place);
                if (home.roleAt(place) != VARIABLE_OPEN) {
                    eraseNamed(home, place);
                    return;
                }
                int k = home.parameterNamed(home, place + 1);
                if (k == NONE && outer != null) {
                    k = outer.parameterNamed(home, place + 1);
                    // From here on the chain stays in the scope, which is looked at without one.
                    home = outer;
                    outer = null;
                    opened = 0L;
                }
                int bound = k == NONE ? NONE : home.firstBound(k);
                if (bound == NONE || (opened >> k & 1L) != 0L) {
                    erased.addText(OBJECT);
                    return;
                }
                opened |= 1L << k;
                place = bound;
            }
        }

        private int eraseBrackets(Signature home, int start) {
            int place = start;
            while (place < home.letters.length && home.roleAt(place) == ARRAY) {
                erased.add('[');
                place++;
            }
            return place;
        }

        /** Erases a BASE, a V or a CLASS. */
        private void eraseNamed(Signature home, int start) {
            int end = home.behindType(start);
            int depth = 0;
            for (int place = start; place < end; place++) {
                int role = home.roleAt(place);
                if (role == ARGUMENTS_OPEN) {
                    depth++;
                } else if (role == ARGUMENTS_CLOSE) {
                    depth--;
                } else if (depth == 0) {
                    erased.add(role == SEGMENT_DOT ? '$' : home.letterAt(place));
                }
            }
        }
    }
}
