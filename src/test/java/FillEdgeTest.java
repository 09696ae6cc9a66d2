/** The edges of promise 11, fill: one sentence, or one reason to refuse, a test. */
public final class FillEdgeTest {
    private static final Check CHECK = new Check("FillEdgeTest");

    public static void main(String[] args) {
        withoutItsParameter();
        everyVariableThatItDeclares();
        inBoundsToo();
        whatTheFieldSays();
        scopeOfTheFirstOne();
        answersItsNumber();
        noSuchSignature();
        noSuchParameter();
        noField();
        anArrayThrown();
        thrownByOthers();
        wouldReadOtherwise();
        wouldNotReadOtherwise();
        exactlyOneHundredAndTwenty();
        notCutToOneHundredAndTwenty();
        moreAcrossManyFills();
        theTwentyFourth();
        refusalsChangeNothing();
        CHECK.end();
    }

    private static void filled(int kind, String old, int k, String field, String want) {
        SignatureForest forest = Check.forest(kind + " " + old, "2 " + field);
        String call = "fill of " + old + " at " + k + " with " + field;
        CHECK.same(call, forest.fill(0, k, 1), 2);
        CHECK.hasText(forest, 2, Check.WRITTEN, want);
        CHECK.same("kind behind " + call, forest.kind(2), kind);
        CHECK.same("parameters behind " + call, forest.parameters(2), forest.parameters(0) - 1);
        CHECK.hasText(forest, 0, Check.WRITTEN, old);
    }

    private static void refused(String old, int k, String field) {
        SignatureForest forest = Check.forest("1 " + old, "2 " + field);
        String before = Check.state(forest);
        CHECK.refused("fill of " + old + " at " + k + " with " + field, forest.fill(0, k, 1));
        CHECK.same("the state behind it", Check.state(forest), before);
    }

    private static void withoutItsParameter() {
        CHECK.sentence("Makes a signature like the first one but without its parameter k (from 0)");
        filled(1, "<A:>()V", 0, "LX;", "()V");
        filled(0, "<A:LX;:LY;>LZ;", 0, "LX;", "LZ;");
        filled(1, "<A:B:C:>()V", 0, "LX;", "<B:C:>()V");
        filled(1, "<A:B:C:>()V", 1, "LX;", "<A:C:>()V");
        filled(1, "<A:B:C:>()V", 2, "LX;", "<A:B:>()V");
        filled(1, "<A:[IB::LX;:LY;C:TA;>()V", 1, "LX;", "<A:[IC:TA;>()V");
        filled(0, "<A:B:C:D:E:F:G:H:I:J:K:M:N:O:P:Q:R:>La;", 16, "LX;", "<A:B:C:D:E:F:G:H:I:J:K:M:N:O:P:Q:>La;");
    }

    private static void everyVariableThatItDeclares() {
        CHECK.sentence("every VARIABLE in it that this parameter declares");
        filled(1, "<T:>(TT;[TT;La<TT;>;I)TT;^TT;", 0, "LX;", "(LX;[LX;La<LX;>;I)LX;^LX;");
        filled(0, "<T:>La<TT;+TT;-TT;*>.b<[TT;>;Lc<TT;>;", 0, "[I", "La<[I+[I-[I*>.b<[[I>;Lc<[I>;");
        filled(1, "<T:LX;TT:>(TT;TTT;TTTT;TX;)V", 0, "LX;", "<TT:>(LX;TTT;TTTT;TX;)V");
        filled(1, "<T:>(LT;LT/T.T<TT;>;)V", 0, "LX;", "(LT;LT/T.T<LX;>;)V");
        filled(1, "<A:B:>(TA;TB;)V", 1, "LX;", "<A:>(TA;LX;)V");
        filled(1, "<T:>(TX;)V", 0, "LX;", "(TX;)V");
    }

    /** Of the parameter that goes, the bounds go too. */
    private static void inBoundsToo() {
        CHECK.sentence("in bounds too");
        filled(1, "<A:TB;B:>()V", 1, "LX;", "<A:LX;>()V");
        filled(1, "<A:B:TA;>()V", 0, "LX;", "<B:LX;>()V");
        filled(1, "<A::TB;:La<+TB;>;B:C:[TB;>()V", 1, "[I", "<A::[I:La<+[I>;C:[[I>()V");
        filled(1, "<A:TA;:TB;B:TA;>()V", 0, "LX;", "<B:LX;>()V");
    }

    /** What a VARIABLE of the field is called does not matter: it is not filled again. */
    private static void whatTheFieldSays() {
        CHECK.sentence("is what the field says, a signature of kind 2");
        filled(1, "<T:>(TT;)V", 0, "TT;", "(TT;)V");
        filled(1, "<T:>(TT;)V", 0, "La<TT;TT;>;", "(La<TT;TT;>;)V");
        filled(1, "<A:B:>(TA;TB;)V", 0, "TB;", "<B:>(TB;TB;)V");
        filled(1, "<A:B:>(TA;TB;)V", 1, "La<TA;TB;>;", "<A:>(TA;La<TA;TB;>;)V");
        filled(1, "<T:>([TT;)V", 0, "[[Z", "([[[Z)V");
        filled(1, "<T:>(TT;)V", 0, "La/b<*>.c;", "(La/b<*>.c;)V");
        SignatureForest forest = Check.forest("1 <T:>(TT;)V", "2 TT;", "1 <A:B:LX;>(TA;)V", "2 TB;");
        CHECK.same("fill", forest.fill(0, 0, 1), 4);
        CHECK.same("it is free now", forest.measure(4, 0), 1);
        CHECK.same("fill with the other's name", forest.fill(2, 0, 3), 5);
        CHECK.same("it is declared now", forest.measure(5, 1), 1);
        CHECK.hasText(forest, 5, Check.ERASED, "(LX;)V");
    }

    private static void scopeOfTheFirstOne() {
        CHECK.sentence("its scope is that of the first one");
        SignatureForest forest = Check.forest("0 <X:LY;>LC;", "0 <X:LZ;>LC;", "1 <A:>(TA;)V", "2 TX;");
        CHECK.same("fill without a scope", forest.fill(2, 0, 3), 4);
        forest.scope(2, 0);
        forest.scope(3, 1);
        CHECK.same("fill in a scope", forest.fill(2, 0, 3), 5);
        forest.scope(2, 1);
        CHECK.hasText(forest, 4, Check.ERASED, "(Ljava/lang/Object;)V");
        CHECK.hasText(forest, 5, Check.ERASED, "(LY;)V");
        CHECK.same("the scope of the one", forest.scope(4, -1), -1);
        CHECK.same("the scope of the other", forest.scope(5, -1), 0);
        CHECK.same("the scope of the first one", forest.scope(2, -1), 1);
    }

    private static void answersItsNumber() {
        CHECK.sentence("Answers its number");
        SignatureForest forest = Check.forest("1 <A:B:>(TA;TB;)V", "2 LX;");
        CHECK.same("a fill", forest.fill(0, 0, 1), 2);
        CHECK.same("a fill of that", forest.fill(2, 0, 1), 3);
        CHECK.same("the same again", forest.fill(0, 0, 1), 4);
        CHECK.same("count(0)", forest.count(0), 5);
        CHECK.hasText(forest, 3, Check.WRITTEN, "(LX;LX;)V");
        CHECK.same("they are alike", forest.alike(2, 4), 1);
    }

    private static void noSuchSignature() {
        CHECK.sentence("REFUSED: no such signature");
        SignatureForest forest = Check.forest("1 <A:>(TA;)V", "2 LX;");
        for (int none : new int[] {-1, 2, 23, 24, Integer.MIN_VALUE, Integer.MAX_VALUE}) {
            CHECK.refused("fill(" + none + ", 0, 1)", forest.fill(none, 0, 1));
            CHECK.refused("fill(0, 0, " + none + ")", forest.fill(0, 0, none));
            CHECK.refused("fill(" + none + ", 0, itself)", forest.fill(none, 0, none));
        }
        CHECK.same("count(0)", forest.count(0), 2);
    }

    private static void noSuchParameter() {
        CHECK.sentence("REFUSED: no such parameter");
        SignatureForest forest = Check.forest("1 <A:B:>(TA;)V", "2 LX;", "1 ()V", "0 LX;", "2 TA;");
        for (int none : new int[] {-1, 2, 3, 64, Integer.MIN_VALUE, Integer.MAX_VALUE}) {
            CHECK.refused("fill(0, " + none + ", 1)", forest.fill(0, none, 1));
        }
        for (int k = -1; k < 2; k++) {
            CHECK.refused("a method without parameters", forest.fill(2, k, 1));
            CHECK.refused("a class without parameters", forest.fill(3, k, 1));
            CHECK.refused("a field", forest.fill(4, k, 1));
        }
        CHECK.same("the last parameter", forest.fill(0, 1, 1), 5);
        CHECK.refused("the parameter that went", forest.fill(5, 1, 1));
    }

    private static void noField() {
        CHECK.sentence("REFUSED: the second one is no field");
        SignatureForest forest = Check.forest("1 <A:>(TA;)V", "0 LX;", "1 ()V", "2 LX;");
        CHECK.refused("a class", forest.fill(0, 0, 1));
        CHECK.refused("a method", forest.fill(0, 0, 2));
        CHECK.refused("itself", forest.fill(0, 0, 0));
        CHECK.same("a field", forest.fill(0, 0, 3), 4);
    }

    private static void anArrayThrown() {
        CHECK.sentence("REFUSED: a VARIABLE THROWN is declared by k and the field is an ARRAY");
        refused("<A:>()V^TA;", 0, "[I");
        refused("<A:>()V^TA;", 0, "[LX;");
        refused("<A:>()V^TA;", 0, "[TA;");
        refused("<A:>()V^LX;^TA;", 0, "[I");
        refused("<A:>()V^TA;^LX;", 0, "[I");
        refused("<A:B:>()V^TA;^TB;", 1, "[I");
        filled(1, "<A:>()V^TA;", 0, "LX;", "()V^LX;");
        filled(1, "<A:>()V^TA;", 0, "TX;", "()V^TX;");
        filled(1, "<A:>()V^TA;", 0, "La<[I>;", "()V^La<[I>;");
    }

    /** An ARRAY is no reason if what is thrown is not the VARIABLE itself, or not k's. */
    private static void thrownByOthers() {
        CHECK.sentence("a VARIABLE THROWN is declared by k");
        filled(1, "<A:>(TA;)TA;", 0, "[I", "([I)[I");
        filled(1, "<A:>()V^LA;", 0, "[I", "()V^LA;");
        filled(1, "<A:>()V^TX;", 0, "[I", "()V^TX;");
        filled(1, "<A:>()V^TAA;", 0, "[I", "()V^TAA;");
        filled(1, "<A:B:>()V^TB;", 0, "[I", "<B:>()V^TB;");
        filled(1, "<A:>()V^La<TA;>;", 0, "[I", "()V^La<[I>;");
        filled(1, "<A:B:TA;>()V^TB;", 0, "[I", "<B:[I>()V^TB;");
    }

    private static void wouldReadOtherwise() {
        CHECK.sentence("REFUSED: a parameter without bounds would then stand before one whose NAME begins with L or T "
                + "(which would read otherwise)");
        for (String name : new String[] {"L", "T", "LA", "TA", "Long", "T1", "LT", "TL", "L)", "T^"}) {
            refused("<A:B:LX;" + name + ":>()V", 1, "LX;");
            refused("<A:B::LX;" + name + ":LY;>()V", 1, "LX;");
            refused("<A:B:[I" + name + ":C:>()V", 1, "LX;");
            refused("<A:B:C:[I" + name + ":>()V", 2, "LX;");
        }
        refused("<L:B:LX;T:>(TB;)V", 1, "[I");
    }

    private static void wouldNotReadOtherwise() {
        CHECK.sentence("a parameter without bounds would then stand before one whose NAME begins with L or T");
        for (String name : new String[] {"L", "T", "LA", "TA"}) {
            filled(1, "<B:LX;" + name + ":>()V", 0, "LX;", "<" + name + ":>()V");
            filled(1, "<A:LX;B:LX;" + name + ":>()V", 1, "LX;", "<A:LX;" + name + ":>()V");
            filled(1, "<A::LX;B:LX;" + name + ":>()V", 1, "LX;", "<A::LX;" + name + ":>()V");
            filled(1, "<A:TB;B:LX;" + name + ":>()V", 1, "[I", "<A:[I" + name + ":>()V");
            filled(1, "<A:B:LX;" + name + ":>()V", 0, "LX;", "<B:LX;" + name + ":>()V");
            filled(1, "<A:B:LX;" + name + ":>()V", 2, "LX;", "<A:B:LX;>()V");
            filled(1, "<A:B:C:LX;" + name + ":>()V", 1, "LX;", "<A:C:LX;" + name + ":>()V");
            filled(1, "<" + name + ":B:LX;C:>()V", 1, "LX;", "<" + name + ":C:>()V");
        }
        for (String name : new String[] {"K", "M", "S", "U", "l", "t", "AL", "AT", "]", "*"}) {
            filled(1, "<A:B:LX;" + name + ":>()V", 1, "LX;", "<A:" + name + ":>()V");
        }
    }

    /** Three times 38 or 39 and others; the parameter that goes, and its bounds, do not count. */
    private static void exactlyOneHundredAndTwenty() {
        CHECK.sentence("REFUSED: WRITTEN would have more than 120 characters");
        String field = "L" + "a".repeat(36) + ";";
        filled(1, "<T:>(TT;TT;TT;III)V", 0, field, "(" + field.repeat(3) + "III)V");
        refused("<T:>(TT;TT;TT;IIII)V", 0, field);
        refused("<T:>(TT;TT;TT;IIIII)V", 0, field);
        filled(1, "<T:>(IIIITT;TT;)TT;", 0, field, "(IIII" + field.repeat(2) + ")" + field);
        refused("<T:>(IIIIITT;TT;)TT;", 0, field);
        refused("<T:>(TT;TT;TT;TT;TT;)V", 0, field);
        String arrays = "[".repeat(38) + "I";
        filled(1, "<T:>(TT;TT;)TT;", 0, arrays, "(" + arrays.repeat(2) + ")" + arrays);
        filled(1, "<T:>([TT;TT;)TT;", 0, arrays, "([" + arrays.repeat(2) + ")" + arrays);
        refused("<T:>([TT;[TT;)TT;", 0, arrays);
        filled(0, "<T:>La<TT;>;La<TT;>;LB;", 0, field, "La<" + field + ">;La<" + field + ">;LB;");
        filled(1, "<T:LX;:LY;:LZ;>(TT;TT;TT;III)V", 0, field, "(" + field.repeat(3) + "III)V");
        filled(1, "<T:>(TT;TT;TT;)V", 0, field, "(" + field.repeat(3) + ")V");
        refused("<T:>(TT;TT;TT;)V^LX;", 0, field);
    }

    /** The first 120 of its 123 characters would be a signature by themselves. */
    private static void notCutToOneHundredAndTwenty() {
        CHECK.sentence("REFUSED: WRITTEN would have more than 120 characters, however it goes on");
        String field = "L" + "a".repeat(33) + ";";
        String filled = "La<" + field + ">;";
        filled(0, "<T:>La<TT;>;La<TT;>;La<TT;>;", 0, field, filled.repeat(3));
        SignatureForest forest = Check.forest("0 <T:>La<TT;>;La<TT;>;La<TT;>;LB;", "2 " + field);
        CHECK.refused("fill to 123", forest.fill(0, 0, 1));
        CHECK.same("count(0) behind it", forest.count(0), 2);
    }

    private static void moreAcrossManyFills() {
        CHECK.sentence("REFUSED: WRITTEN would have more than 120 characters, of a filled one");
        String field = "L" + "a".repeat(37) + ";";
        String fitting = "L" + "b".repeat(35) + ";";
        String tooLong = "L" + "b".repeat(36) + ";";
        SignatureForest forest = Check.forest("1 <A:B:C:D:>(TA;TB;TC;TD;)V", "2 " + field, "2 [I",
                "2 " + fitting, "2 " + tooLong);
        CHECK.same("the first", forest.fill(0, 0, 1), 5);
        CHECK.same("the second", forest.fill(5, 0, 1), 6);
        CHECK.refused("the third would have 127", forest.fill(6, 0, 1));
        CHECK.same("a shorter third", forest.fill(6, 0, 2), 7);
        CHECK.refused("the fourth would have 121", forest.fill(7, 0, 4));
        CHECK.same("the fourth has 120", forest.fill(7, 0, 3), 8);
        CHECK.hasText(forest, 8, Check.WRITTEN, "(" + field + field + "[I" + fitting + ")V");
        CHECK.same("its length", forest.length(8, 0), 120);
    }

    private static void theTwentyFourth() {
        CHECK.sentence("REFUSED: or 24 were made");
        SignatureForest forest = Check.forest("1 <A:>(TA;)V", "2 LX;");
        for (int i = 2; i < 24; i++) {
            CHECK.same("fill to no. " + i, forest.fill(0, 0, 1), i);
        }
        String before = Check.state(forest);
        CHECK.refused("fill to no. 24", forest.fill(0, 0, 1));
        CHECK.refused("and again", forest.fill(0, 0, 1));
        CHECK.same("the state", Check.state(forest), before);
    }

    /** The line is the same behind fills, refused or not. */
    private static void refusalsChangeNothing() {
        CHECK.sentence("Refused calls answer REFUSED and change nothing: fill and the line");
        SignatureForest forest = Check.forest("1 <A:>(TA;)V^TA;", "2 [I", "2 LX;");
        Check.type(forest, "LA");
        CHECK.refused("an ARRAY thrown", forest.fill(0, 0, 1));
        CHECK.same("a fill", forest.fill(0, 0, 2), 3);
        CHECK.same("the line goes on", forest.type(';'), 3);
        CHECK.same("read", forest.read(2), 4);
        CHECK.hasText(forest, 4, Check.WRITTEN, "LA;");
        CHECK.hasText(forest, 3, Check.WRITTEN, "(LX;)V^LX;");
    }
}
