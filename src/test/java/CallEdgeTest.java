/** The edges of the calls that take in a line, and of refused calls: one sentence a test. */
public final class CallEdgeTest {
    private static final Check CHECK = new Check("CallEdgeTest");
    private static final int[] WILD = {-1, -2, 24, 25, -100, 64, 1 << 16, Integer.MIN_VALUE, Integer.MAX_VALUE};

    public static void main(String[] args) {
        fiveHundredAndTwelveCalls();
        aNewObject();
        refusedCallsChangeNothing();
        aSignatureNotMade();
        typeAnswersTheLength();
        typeRefusesACode();
        typeRefusesTheFortyFirst();
        clearEmpties();
        readAnswersANumber();
        readEmptiesTheLine();
        readIsWithoutAScope();
        readRefusesAnotherKind();
        readTellsTheFault();
        readRefusesBehindTheFault();
        theLineStays();
        kinds();
        counts();
        CHECK.end();
    }

    private static void fiveHundredAndTwelveCalls() {
        CHECK.sentence("An object is used for at most 512 calls after it has been made; "
                + "what later calls answer is free");
        SignatureForest forest = new SignatureForest();
        int calls = 0;
        for (int round = 0; round < 12; round++) {
            for (int i = 0; i < 40; i++) {
                CHECK.same("type no. " + calls, forest.type(i < 39 ? '[' : 'I'), i + 1);
                calls++;
            }
            CHECK.same("read no. " + round, forest.read(2), round);
            calls++;
        }
        for (; calls < 510; calls++) {
            CHECK.same("text", forest.text(11, 0, 39), 'I');
        }
        CHECK.same("call 511", forest.length(11, 1), 81);
        CHECK.same("call 512", forest.measure(11, 5), 39);
        for (int i = 0; i < 1000; i++) {
            forest.type('I');
            forest.read(i % 4);
            forest.fill(i % 30, 0, i % 24);
        }
    }

    private static void aNewObject() {
        CHECK.sentence("No signatures, an empty line");
        SignatureForest forest = new SignatureForest();
        CHECK.same("count(0)", forest.count(0), 0);
        CHECK.same("count(1)", forest.count(1), 0);
        CHECK.refused("kind(0)", forest.kind(0));
        CHECK.same("read of the empty line", forest.read(2), -1);
        CHECK.same("the first character", forest.type('['), 1);
        CHECK.same("the second character", forest.type('I'), 2);
        CHECK.same("the first signature", forest.read(2), 0);
    }

    /** Every call that can be refused is, in a forest with scopes and a line begun. */
    private static void refusedCallsChangeNothing() {
        CHECK.sentence("Refused calls answer REFUSED and change nothing");
        SignatureForest forest = Check.forest("0 <A:LX;>LA;", "1 <A:B:LX;L:>(TA;TC;)V^TL;", "2 [TA;", "2 LB;");
        forest.scope(1, 0);
        forest.scope(2, 0);
        Check.type(forest, "L");
        String before = Check.state(forest);
        refuseAll(forest);
        CHECK.same("the state", Check.state(forest), before);
        Check.type(forest, "B;");
        CHECK.same("read of the line", forest.read(2), 4);
        CHECK.hasText(forest, 4, Check.WRITTEN, "LB;");
    }

    private static void refuseAll(SignatureForest forest) {
        for (int none : WILD) {
            CHECK.refused("read(" + none + ")", forest.read(none));
            CHECK.refused("bounds(1, " + none + ")", forest.bounds(1, none));
            CHECK.refused("fill(1, " + none + ", 2)", forest.fill(1, none, 2));
            CHECK.refused("fill(1, 0, " + none + ")", forest.fill(1, 0, none));
            CHECK.refused("fill(" + none + ", 0, 2)", forest.fill(none, 0, 2));
            CHECK.refused("measure(1, " + none + ")", forest.measure(1, none));
            CHECK.refused("count(" + none + ")", forest.count(none));
            CHECK.refused("length(1, " + none + ")", forest.length(1, none));
            CHECK.refused("scope(" + none + ", 0)", forest.scope(none, 0));
        }
        CHECK.refused("type(32)", forest.type(32));
        CHECK.refused("type(127)", forest.type(127));
        CHECK.refused("scope of a method", forest.scope(2, 1));
        CHECK.refused("scope of itself", forest.scope(0, 0));
        CHECK.refused("scope -2", forest.scope(1, -2));
        CHECK.refused("scope 4", forest.scope(1, 4));
        CHECK.refused("clash with a field", forest.clash(1, 2));
        CHECK.refused("an ARRAY thrown", forest.fill(1, 2, 2));
        CHECK.refused("a name with L behind none", forest.fill(1, 1, 3));
        CHECK.refused("a class as field", forest.fill(1, 0, 0));
    }

    private static void aSignatureNotMade() {
        CHECK.sentence("A signature not made is refused before all else");
        SignatureForest forest = Check.forest("1 <A:>(TA;)V", "0 <A:>LA;", "2 LA;");
        notMade(forest, 3);
        notMade(forest, 23);
        for (int none : WILD) {
            notMade(forest, none);
        }
        notMade(new SignatureForest(), 0);
        CHECK.same("count(0)", forest.count(0), 3);
    }

    /** With other numbers that are right, and with such as would be refused for themselves. */
    private static void notMade(SignatureForest forest, int none) {
        String told = " of no. " + none;
        CHECK.refused("kind" + told, forest.kind(none));
        CHECK.refused("parameters" + told, forest.parameters(none));
        for (int other = -1; other <= 6; other++) {
            CHECK.refused("scope" + told, forest.scope(none, other));
            CHECK.refused("length" + told, forest.length(none, other));
            CHECK.refused("bounds" + told, forest.bounds(none, other));
            CHECK.refused("measure" + told, forest.measure(none, other));
            CHECK.refused("alike" + told, forest.alike(none, other));
            CHECK.refused("alike with it" + told, forest.alike(other, none));
            CHECK.refused("clash" + told, forest.clash(none, other));
            CHECK.refused("clash with it" + told, forest.clash(other, none));
            CHECK.refused("fill" + told, forest.fill(none, 0, other));
            CHECK.refused("fill with it" + told, forest.fill(other, 0, none));
            CHECK.same("text" + told, forest.text(none, other, 0), -1);
        }
    }

    private static void typeAnswersTheLength() {
        CHECK.sentence("Adds a character to the line; answers its length then");
        SignatureForest forest = new SignatureForest();
        for (int i = 1; i <= 40; i++) {
            CHECK.same("type no. " + i, forest.type(i == 1 ? 'L' : i == 40 ? ';' : 'a' + i % 20), i);
        }
        CHECK.same("read", forest.read(2), 0);
        for (int i = 2; i < 40; i++) {
            CHECK.same("the character " + i, forest.text(0, 0, i - 1), 'a' + i % 20);
        }
    }

    private static void typeRefusesACode() {
        CHECK.sentence("A code not 33 .. 126: REFUSED");
        SignatureForest forest = new SignatureForest();
        CHECK.refused("type(32)", forest.type(32));
        CHECK.same("type(33)", forest.type(33), 1);
        CHECK.same("type(126)", forest.type(126), 2);
        CHECK.refused("type(127)", forest.type(127));
        int[] codes = {0, -1, 10, 128, 255, 256 + 'L', 65536 + 'L', -65536 + 'L', Integer.MIN_VALUE, Integer.MAX_VALUE,
            Integer.MIN_VALUE + 'L'};
        for (int code : codes) {
            CHECK.refused("type(" + code + ")", forest.type(code));
        }
        CHECK.same("count(1)", forest.count(1), 2);
    }

    private static void typeRefusesTheFortyFirst() {
        CHECK.sentence("or 40 are there: REFUSED");
        SignatureForest forest = new SignatureForest();
        Check.type(forest, "[".repeat(39));
        CHECK.same("the 40th", forest.type('I'), 40);
        CHECK.refused("the 41st", forest.type('I'));
        CHECK.refused("a wrong 41st", forest.type(32));
        CHECK.same("count(1)", forest.count(1), 40);
        CHECK.same("read", forest.read(2), 0);
        CHECK.hasText(forest, 0, Check.WRITTEN, "[".repeat(39) + "I");
        CHECK.same("the first behind it", forest.type('I'), 1);
    }

    private static void clearEmpties() {
        CHECK.sentence("Empties the line");
        SignatureForest forest = Check.forest("2 LA;");
        forest.clear();
        CHECK.same("an empty line", forest.count(1), 0);
        Check.type(forest, "x".repeat(40));
        forest.clear();
        CHECK.same("a full line", forest.count(1), 0);
        CHECK.same("read behind clear", forest.read(2), -1);
        CHECK.same("read of a new line", Check.read(forest, 2, "[J"), 1);
        CHECK.hasText(forest, 0, Check.WRITTEN, "LA;");
        CHECK.hasText(forest, 1, Check.WRITTEN, "[J");
    }

    private static void readAnswersANumber() {
        CHECK.sentence("Reads the line as a signature of the kind (0 .. 2); answers its number");
        SignatureForest forest = new SignatureForest();
        for (int kind = 0; kind < 3; kind++) {
            CHECK.same("read(" + kind + ")", Check.read(forest, kind, kind == 1 ? "()V" : "LA;"), kind);
            CHECK.same("kind", forest.kind(kind), kind);
        }
    }

    private static void readEmptiesTheLine() {
        CHECK.sentence("and the line is emptied");
        SignatureForest forest = new SignatureForest();
        CHECK.same("read", Check.read(forest, 2, "[I"), 0);
        CHECK.same("count(1)", forest.count(1), 0);
        CHECK.same("read again", forest.read(2), -1);
        CHECK.same("type", forest.type('x'), 1);
        CHECK.hasText(forest, 0, Check.WRITTEN, "[I");
    }

    private static void readIsWithoutAScope() {
        CHECK.sentence("without a scope");
        SignatureForest forest = Check.forest("0 <A:LX;>LA;", "2 TA;");
        forest.scope(1, 0);
        CHECK.same("read", Check.read(forest, 2, "TA;"), 2);
        CHECK.same("measure of a free one", forest.measure(2, 0), 1);
        CHECK.same("its scope", forest.scope(2, -1), -1);
    }

    private static void readRefusesAnotherKind() {
        CHECK.sentence("Another kind: REFUSED");
        SignatureForest forest = new SignatureForest();
        for (int kind : new int[] {-1, 3, 4, -100, 256, Integer.MIN_VALUE, Integer.MAX_VALUE}) {
            CHECK.refused("an empty line, read(" + kind + ")", forest.read(kind));
        }
        Check.type(forest, "LA;");
        CHECK.refused("read(-1)", forest.read(-1));
        CHECK.refused("read(3)", forest.read(3));
        CHECK.same("read(0)", forest.read(0), 0);
    }

    private static void readTellsTheFault() {
        CHECK.sentence("A fault: -1 - its place");
        CHECK.same("an empty line", new SignatureForest().read(0), -1);
        SignatureForest forest = new SignatureForest();
        Check.type(forest, "x");
        CHECK.same("the first place", forest.read(2), -1);
        forest.clear();
        Check.type(forest, "L" + "a".repeat(38));
        CHECK.same("the end at 39", forest.read(2), -40);
        forest.type('.');
        CHECK.same("the end at 40", forest.read(2), -41);
    }

    private static void readRefusesBehindTheFault() {
        CHECK.sentence("24 were made: REFUSED, tested behind the fault");
        SignatureForest forest = new SignatureForest();
        for (int i = 0; i < 23; i++) {
            Check.read(forest, 2, "LA;");
        }
        CHECK.same("the 24th", Check.read(forest, 2, "LA;"), 23);
        CHECK.same("a fault of the empty line", forest.read(2), -1);
        Check.type(forest, "LA;");
        CHECK.refused("the 25th", forest.read(2));
        CHECK.refused("the 25th as a class", forest.read(0));
        CHECK.same("a fault", forest.read(1), -1);
        CHECK.refused("another kind", forest.read(3));
        forest.type('x');
        CHECK.same("a fault behind it", forest.read(2), -4);
        CHECK.same("count(0)", forest.count(0), 24);
    }

    private static void theLineStays() {
        CHECK.sentence("In these cases the line stays");
        SignatureForest forest = new SignatureForest();
        Check.type(forest, "La<*");
        CHECK.refused("another kind", forest.read(3));
        CHECK.same("a fault", forest.read(2), -5);
        CHECK.same("another fault", forest.read(1), -1);
        CHECK.same("count(1)", forest.count(1), 4);
        Check.type(forest, ">;");
        CHECK.same("the line goes on", forest.read(2), 0);
        CHECK.hasText(forest, 0, Check.WRITTEN, "La<*>;");
        for (int i = 1; i < 24; i++) {
            Check.read(forest, 2, "LA;");
        }
        Check.type(forest, "()V");
        CHECK.refused("the 25th", forest.read(1));
        CHECK.same("count(1) behind it", forest.count(1), 3);
        Check.type(forest, "^I");
        CHECK.same("the line goes on to a fault", forest.read(1), -5);
    }

    private static void kinds() {
        CHECK.sentence("The kind of the signature; REFUSED");
        SignatureForest forest = Check.forest("2 LA;", "0 LA;", "1 <A:>()V");
        forest.fill(2, 0, 0);
        CHECK.same("a field", forest.kind(0), 2);
        CHECK.same("a class", forest.kind(1), 0);
        CHECK.same("a method", forest.kind(2), 1);
        CHECK.same("a filled method", forest.kind(3), 1);
        CHECK.refused("kind(4)", forest.kind(4));
        CHECK.refused("kind(-1)", forest.kind(-1));
    }

    private static void counts() {
        CHECK.sentence("Signatures made (0), characters in the line (1); else REFUSED");
        SignatureForest forest = new SignatureForest();
        for (int i = 0; i <= 24; i++) {
            CHECK.same("count(0) of " + i, forest.count(0), i);
            Check.read(forest, 2, "LA;");
        }
        CHECK.same("count(0) of no more", forest.count(0), 24);
        forest.clear();
        for (int i = 0; i <= 40; i++) {
            CHECK.same("count(1) of " + i, forest.count(1), i);
            forest.type('x');
        }
        CHECK.same("count(1) of no more", forest.count(1), 40);
        for (int what : new int[] {-1, 2, 3, Integer.MIN_VALUE, Integer.MAX_VALUE}) {
            CHECK.refused("count(" + what + ")", forest.count(what));
        }
    }
}
