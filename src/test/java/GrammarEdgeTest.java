/** The edges of the line, the grammar and the fault: each test holds one sentence of the Terms. */
public final class GrammarEdgeTest {
    private static final Check CHECK = new Check("GrammarEdgeTest");
    private static final String NO_NAME_LETTERS = ".;/:<>[";

    public static void main(String[] args) {
        theLineHoldsNoneToForty();
        theLineHoldsTheseCodes();
        placesAreFromZero();
        bases();
        variables();
        arrays();
        classes();
        segments();
        argumentsAreOneOrMore();
        eachArgument();
        namesAreOneOrMoreCharacters();
        nameCharacters();
        parametersAreOneOrMore();
        eachParameter();
        aReferenceAlwaysBeginsBehindTheFirstColon();
        kindClass();
        kindMethod();
        kindField();
        allCharactersTogether();
        theEndOfTheLineAsFault();
        ofThatKind();
        ofAnyLength();
        theSameNameTwice();
        CHECK.end();
    }

    private static void theLineHoldsNoneToForty() {
        CHECK.sentence("THE LINE holds 0 to 40 characters");
        for (int kind = 0; kind < 3; kind++) {
            CHECK.faultAt(0, kind, "");
        }
        CHECK.right(0, "L" + "a".repeat(38) + ";");
        CHECK.right(1, "(" + "I".repeat(37) + ")V");
        CHECK.right(2, "[".repeat(39) + "I");
        CHECK.right(0, "L" + "a".repeat(37) + ";");
        SignatureForest forest = new SignatureForest();
        CHECK.same("41 typed and read", Check.read(forest, 2, "[".repeat(39) + "IX"), 0);
        CHECK.hasText(forest, 0, Check.WRITTEN, "[".repeat(39) + "I");
    }

    private static void theLineHoldsTheseCodes() {
        CHECK.sentence("characters of codes 33 .. 126");
        for (int code = 33; code <= 126; code++) {
            CHECK.same("type(" + code + ")", new SignatureForest().type(code), 1);
        }
        CHECK.right(2, "L!;");
        CHECK.right(2, "L~;");
        CHECK.right(2, "T!~;");
    }

    private static void placesAreFromZero() {
        CHECK.sentence("at places from 0");
        CHECK.faultAt(0, 2, "x");
        CHECK.faultAt(1, 2, "L/");
        CHECK.faultAt(39, 2, "L" + "a".repeat(38) + ":");
        CHECK.faultAt(39, 1, "(" + "I".repeat(38) + "V");
        CHECK.faultAt(39, 0, "L" + "a".repeat(37) + ";X");
    }

    private static void bases() {
        CHECK.sentence("TYPE: B or C or D or F or I or J or S or Z (a BASE), or REFERENCE");
        for (char c = 33; c <= 126; c++) {
            boolean base = "BCDFIJSZ".indexOf(c) >= 0;
            if (base) {
                CHECK.right(2, "[" + c);
                CHECK.right(1, "(" + c + ")" + c);
            } else if ("LT[".indexOf(c) >= 0) {
                CHECK.faultAt(2, 2, "[" + c);
            } else {
                CHECK.faultAt(1, 2, "[" + c);
            }
        }
    }

    private static void variables() {
        CHECK.sentence("VARIABLE: T NAME ;");
        CHECK.right(2, "TT;");
        CHECK.right(2, "T" + "x".repeat(38) + ";");
        CHECK.fault(2, "T!");
        CHECK.fault(2, "T!;");
        CHECK.fault(2, "TA!");
        CHECK.fault(2, "TA!/B;");
        CHECK.fault(2, "TA!.B;");
        CHECK.fault(2, "TA!<*>;");
        CHECK.fault(2, "TA;!;");
    }

    private static void arrays() {
        CHECK.sentence("an opening square bracket and a TYPE (an ARRAY)");
        CHECK.right(2, "[I");
        CHECK.right(2, "[TA;");
        CHECK.right(2, "[LA;");
        CHECK.right(2, "[[Z");
        CHECK.fault(2, "[!");
        CHECK.fault(2, "[!V");
        CHECK.fault(2, "[!]");
        CHECK.fault(2, "[!*");
        CHECK.fault(2, "[I![");
    }

    private static void classes() {
        CHECK.sentence("CLASS: L { NAME / } SEGMENT { . SEGMENT } ;");
        CHECK.right(2, "La;");
        CHECK.right(2, "La/b;");
        CHECK.right(2, "La/b/c/d;");
        CHECK.right(2, "La.b;");
        CHECK.right(2, "La/b.c.d.e;");
        CHECK.fault(2, "L!");
        CHECK.fault(2, "L!;");
        CHECK.fault(2, "L!/a;");
        CHECK.fault(2, "L!.a;");
        CHECK.fault(2, "L!<*>;");
        CHECK.fault(2, "La/!;");
        CHECK.fault(2, "La/!/b;");
        CHECK.fault(2, "La/!.b;");
        CHECK.fault(2, "La.!;");
        CHECK.fault(2, "La.!.b;");
        CHECK.fault(2, "La.b!/c;");
        CHECK.fault(2, "La/b!");
        CHECK.fault(2, "La.b!");
    }

    private static void segments() {
        CHECK.sentence("SEGMENT: NAME [ ARGUMENTS ]");
        CHECK.right(2, "La<*>.b.c<*>;");
        CHECK.right(2, "Lx/a<*>;");
        CHECK.fault(2, "Lx<*>!/a;");
        CHECK.fault(2, "La<*>!<*>;");
        CHECK.fault(2, "La<*>!a;");
        CHECK.fault(2, "La.!<*>;");
        CHECK.fault(2, "La/!<*>;");
        CHECK.fault(2, "La<*>!");
    }

    private static void argumentsAreOneOrMore() {
        CHECK.sentence("ARGUMENTS: the sign less, one or more ARGUMENT, the sign greater");
        CHECK.fault(2, "La<!>;");
        CHECK.right(2, "La<*>;");
        CHECK.right(2, "La<**>;");
        CHECK.right(2, "La<" + "*".repeat(35) + ">;");
        CHECK.fault(2, "La<*!");
        CHECK.fault(2, "La<*!;");
        CHECK.fault(2, "La<!");
        CHECK.fault(2, "La!>;");
        CHECK.fault(2, "La<Lb;!;");
    }

    private static void eachArgument() {
        CHECK.sentence("ARGUMENT: * or REFERENCE or + REFERENCE or - REFERENCE");
        for (String reference : new String[] {"Lb;", "Tb;", "[I", "[[Tb;", "Lb<*>.c;"}) {
            CHECK.right(2, "La<" + reference + ">;");
            CHECK.right(2, "La<+" + reference + ">;");
            CHECK.right(2, "La<-" + reference + "*>;");
        }
        for (char c : "BCDFIJSZV()^;:./<>".toCharArray()) {
            CHECK.faultAt(3, 2, "La<" + c + ">;");
            CHECK.faultAt(4, 2, "La<+" + c + ">;");
            CHECK.faultAt(4, 2, "La<-" + c + ">;");
        }
        for (String sign : new String[] {"*", "+", "-"}) {
            CHECK.faultAt(4, 2, "La<+" + sign + ">;");
            CHECK.faultAt(4, 2, "La<-" + sign + ">;");
        }
        CHECK.fault(2, "[!+LA;");
        CHECK.fault(2, "!*");
        CHECK.fault(2, "!+LA;");
    }

    private static void namesAreOneOrMoreCharacters() {
        CHECK.sentence("NAME: one or more characters");
        CHECK.fault(2, "T!;");
        CHECK.fault(2, "L!;");
        CHECK.fault(2, "L!/a;");
        CHECK.fault(2, "La.!;");
        CHECK.fault(0, "<!:>La;");
        CHECK.right(0, "<" + "n".repeat(34) + ":>La;");
    }

    /** Every code as a first and as a second letter of a NAME, in each place that has one. */
    private static void nameCharacters() {
        CHECK.sentence("characters other than . ; / : , the signs less and greater, and the opening square bracket");
        for (char c = 33; c <= 126; c++) {
            if (NO_NAME_LETTERS.indexOf(c) < 0) {
                for (String name : new String[] {"" + c, "a" + c, c + "a"}) {
                    CHECK.right(2, "T" + name + ";");
                    CHECK.right(2, "L" + name + "/a;");
                    CHECK.right(2, "L" + name + ";");
                    CHECK.right(2, "La." + name + ";");
                    CHECK.right(1, "<" + name + ":>()V");
                }
            } else {
                CHECK.faultAt(1, 2, "T" + c + ";");
                CHECK.faultAt(1, 2, "L" + c + ";");
                CHECK.faultAt(3, 2, "La/" + c + ";");
                CHECK.faultAt(3, 2, "La." + c + ";");
                CHECK.faultAt(1, 1, "<" + c + ":>()V");
            }
        }
        for (char c : "./:<>[".toCharArray()) {
            CHECK.faultAt(2, 2, "Ta" + c + "b;");
        }
        for (char c : ":>[".toCharArray()) {
            CHECK.faultAt(2, 2, "La" + c + "b;");
        }
        for (char c : "/:>[".toCharArray()) {
            CHECK.faultAt(4, 2, "La.b" + c + "c;");
        }
        for (char c : ".;/<>[".toCharArray()) {
            CHECK.faultAt(2, 1, "<a" + c + ":>()V");
        }
    }

    private static void parametersAreOneOrMore() {
        CHECK.sentence("PARAMETERS: the sign less, one or more PARAMETER, the sign greater");
        for (int kind = 0; kind < 2; kind++) {
            String body = kind == 0 ? "La;" : "()V";
            CHECK.fault(kind, "<!>" + body);
            CHECK.right(kind, "<A:>" + body);
            CHECK.right(kind, "<A:B:C:D:E:F:G:H:I:J:K:M:N:O:P:Q:R:>" + body);
            CHECK.fault(kind, "<A:!");
            CHECK.fault(kind, "<A:>!");
            CHECK.fault(kind, "<A:>!<B:>" + body);
        }
    }

    private static void eachParameter() {
        CHECK.sentence("PARAMETER: NAME : [ REFERENCE ] { : REFERENCE }");
        for (String reference : new String[] {"Lb;", "Tb;", "[I", "[[Tb;", "Lb<*>.c;"}) {
            CHECK.right(0, "<A:" + reference + ">La;");
            CHECK.right(0, "<A::" + reference + ">La;");
            CHECK.right(0, "<A:" + reference + ":" + reference + ">La;");
            CHECK.right(0, "<A::" + reference + ":" + reference + "B:>La;");
        }
        CHECK.fault(0, "<A!>La;");
        CHECK.fault(0, "<A::!>La;");
        CHECK.fault(0, "<A::!:LB;>La;");
        CHECK.fault(0, "<A::!B:>La;");
        CHECK.fault(0, "<A:LB;:!>La;");
        CHECK.fault(0, "<A:LB;:!:LC;>La;");
        CHECK.fault(0, "<A::!*>La;");
        CHECK.fault(0, "<A:LB;!;>La;");
    }

    private static void aReferenceAlwaysBeginsBehindTheFirstColon() {
        CHECK.sentence("behind the first : of a PARAMETER an L, a T or an opening square bracket "
                + "always begins its REFERENCE");
        CHECK.fault(0, "<A:L!:>La;");
        CHECK.fault(0, "<A:T!:>La;");
        CHECK.fault(0, "<A:LB!:>La;");
        CHECK.fault(0, "<A:TB!:>La;");
        CHECK.fault(0, "<A:[!X:>La;");
        CHECK.fault(0, "<A:[B:!>La;");
        CHECK.right(0, "<A:[BB:>La;");
        CHECK.right(0, "<A:LB;L:>La;");
        CHECK.right(0, "<A::LB;T:>La;");
        CHECK.right(0, "<A:l:t:>La;");
        CHECK.right(0, "<L:A:>La;");
        CHECK.right(0, "<T:A:>La;");
        CHECK.fault(0, "<L:T!:>La;");
    }

    private static void kindClass() {
        CHECK.sentence("A signature of kind 0 (a class): [ PARAMETERS ] CLASS { CLASS }");
        CHECK.fault(0, "!");
        CHECK.fault(0, "<A:>!");
        CHECK.right(0, "La;");
        CHECK.right(0, "La;Lb;Lc;Ld;Le;Lf;Lg;Lh;Li;Lj;Lk;Ll;Lm;");
        CHECK.right(0, "<A:>La;Lb;");
        CHECK.fault(0, "!Ta;");
        CHECK.fault(0, "![La;");
        CHECK.fault(0, "!I");
        CHECK.fault(0, "La;!Tb;");
        CHECK.fault(0, "La;![Lb;");
        CHECK.fault(0, "La;!<A:>");
        CHECK.fault(0, "La;!^Lb;");
        CHECK.fault(0, "La;L!");
    }

    private static void kindMethod() {
        CHECK.sentence("Kind 1 (a method): [ PARAMETERS ] ( { TYPE } ) RESULT { ^ THROWN }, "
                + "RESULT: TYPE or V, THROWN: CLASS or VARIABLE");
        CHECK.right(1, "()V");
        CHECK.right(1, "<A:>(ITA;[I)[TA;^La;^TA;^La<*>.b;");
        CHECK.fault(1, "!)V");
        CHECK.fault(1, "()!");
        CHECK.fault(1, "()!^La;");
        CHECK.fault(1, "(!V)V");
        CHECK.fault(1, "(I!V)V");
        CHECK.fault(1, "()[!V");
        CHECK.fault(1, "()V!V");
        CHECK.fault(1, "()I!I");
        CHECK.fault(1, "()V^!");
        CHECK.fault(1, "()V^!I");
        CHECK.fault(1, "()V^!V");
        CHECK.fault(1, "()V^![La;");
        CHECK.fault(1, "()V^!^La;");
        CHECK.fault(1, "()V^La;!Lb;");
        CHECK.fault(1, "()V^La;^!");
    }

    private static void kindField() {
        CHECK.sentence("Kind 2 (a field): REFERENCE");
        CHECK.right(2, "La;");
        CHECK.right(2, "Ta;");
        CHECK.right(2, "[I");
        for (char c : "BCDFIJSZV<(".toCharArray()) {
            CHECK.faultAt(0, 2, "" + c);
        }
    }

    private static void allCharactersTogether() {
        CHECK.sentence("The line is a signature of a kind if all its characters together are");
        CHECK.fault(2, "La;!La;");
        CHECK.fault(2, "[I!I");
        CHECK.fault(2, "Ta;!x");
        CHECK.fault(1, "()V!x");
        CHECK.fault(0, "La;!x");
    }

    private static void theEndOfTheLineAsFault() {
        CHECK.sentence("the first place whose character (or the end of the line)");
        String[] fields = {"", "L", "La", "La/", "La/b", "La.", "La.b", "La<", "La<*", "La<*>", "La<+", "T", "Ta", "["};
        for (String text : fields) {
            CHECK.faultAt(text.length(), 2, text);
        }
        String[] methods = {"", "<", "<A", "<A:", "<A::", "<A:LB;", "<A:>", "(", "(I", "()", "()[", "()V^", "()V^L"};
        for (String text : methods) {
            CHECK.faultAt(text.length(), 1, text);
        }
        String[] classes = {"", "<", "<A", "<A:", "<A:[", "<A:[I", "<A:>", "L", "La", "La;L"};
        for (String text : classes) {
            CHECK.faultAt(text.length(), 0, text);
        }
        CHECK.faultAt(40, 2, "L" + "a".repeat(39));
        CHECK.faultAt(40, 2, "[".repeat(40));
        CHECK.faultAt(40, 1, "(" + "I".repeat(39));
        CHECK.faultAt(40, 0, "<" + "A".repeat(39));
        CHECK.faultAt(39, 0, "<" + "A".repeat(38));
    }

    private static void ofThatKind() {
        CHECK.sentence("no signature of that kind");
        CHECK.fault(0, "<A:>!()V");
        CHECK.fault(1, "<A:>!La;");
        CHECK.fault(2, "!<A:>La;");
        CHECK.fault(1, "!La;");
        CHECK.fault(0, "!()V");
        CHECK.fault(2, "!()V");
        CHECK.right(0, "La;Lb;");
        CHECK.fault(2, "La;!Lb;");
    }

    /** What the line cannot hold any more can still be hoped for. */
    private static void ofAnyLength() {
        CHECK.sentence("of any length");
        CHECK.faultAt(40, 2, "La<".repeat(13) + "L");
        CHECK.faultAt(40, 0, "La<".repeat(13) + "L");
        CHECK.faultAt(40, 1, "(" + "La<".repeat(13));
        CHECK.faultAt(40, 0, "<A:" + "La<".repeat(12) + "L");
        CHECK.faultAt(40, 0, "<A:B:C:D:E:F:G:H:I:J:K:M:N:O:P:Q:R:S:U:A");
        CHECK.faultAt(39, 2, "La<".repeat(13) + "I");
    }

    private static void theSameNameTwice() {
        CHECK.sentence("a second PARAMETER with the NAME of an earlier one of the same PARAMETERS is a fault too, "
                + "at the place of the : behind it");
        for (int kind = 0; kind < 2; kind++) {
            String body = kind == 0 ? "La;" : "()V";
            CHECK.fault(kind, "<A:A!:>" + body);
            CHECK.fault(kind, "<AB:AB!:>" + body);
            CHECK.fault(kind, "<A:B:A!:>" + body);
            CHECK.fault(kind, "<A:B:C:B!:>" + body);
            CHECK.fault(kind, "<A:Lb;A!:>" + body);
            CHECK.fault(kind, "<A::Tb;A!:Lx;>" + body);
            CHECK.fault(kind, "<A:[BA!:>" + body);
            CHECK.fault(kind, "<T:Lb;T!:>" + body);
            CHECK.fault(kind, "<A:A!:");
            CHECK.fault(kind, "<A:A!");
            CHECK.fault(kind, "<A:A!>");
            CHECK.fault(kind, "<A:A!:A:>" + body);
            CHECK.right(kind, "<A:AA:>" + body);
            CHECK.right(kind, "<AA:A:>" + body);
            CHECK.right(kind, "<AB:AC:CB:>" + body);
            CHECK.right(kind, "<A:a:>" + body);
            CHECK.right(kind, "<A:TA;>" + body);
            CHECK.right(kind, "<A:LA;>" + body);
        }
    }
}
