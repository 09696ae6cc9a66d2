/** The edges of promises 9, 10, 12, 13 and 14, what is asked of signatures: one sentence a test. */
public final class AnswerEdgeTest {
    private static final Check CHECK = new Check("AnswerEdgeTest");
    private static final int[] NONE = {-1, 3, 23, 24, -100, Integer.MIN_VALUE, Integer.MAX_VALUE};

    public static void main(String[] args) {
        alikeOfOneKind();
        alikeUpToNames();
        alikeInTheirOrder();
        alikeCharacterByCharacter();
        alikeOnlyOwnVariables();
        alikeAsManyParameters();
        alikeBothOrNeither();
        alikeRefused();
        clashErased();
        clashOnlyBetweenTheBrackets();
        clashRefused();
        parameterCounts();
        parametersRefused();
        boundCounts();
        boundsRefused();
        freeVariables();
        ownVariables();
        variablesOfTheScope();
        classesAtAnyDepth();
        depthWithoutArguments();
        depthOfArguments();
        squareBrackets();
        measureRefused();
        CHECK.end();
    }

    private static void alike(int want, int kind, String one, String other) {
        SignatureForest forest = Check.forest(kind + " " + one, kind + " " + other);
        CHECK.same("alike of " + one + " and " + other, forest.alike(0, 1), want);
        CHECK.same("alike of " + other + " and " + one, forest.alike(1, 0), want);
        CHECK.same("alike of " + other + " and itself", forest.alike(1, 1), 1);
    }

    private static void alikeOfOneKind() {
        CHECK.sentence("1 if the signatures are of one kind");
        SignatureForest forest = Check.forest("0 LA;", "2 LA;", "1 ()V", "0 LA;", "2 LA;", "1 ()V");
        for (int a = 0; a < 6; a++) {
            for (int b = 0; b < 6; b++) {
                CHECK.same("alike(" + a + ", " + b + ")", forest.alike(a, b), a % 3 == b % 3 ? 1 : 0);
            }
        }
    }

    private static void alikeUpToNames() {
        CHECK.sentence("alike up to the names of their own parameters");
        alike(1, 0, "<A:>LX<TA;>;", "<B:>LX<TB;>;");
        alike(1, 0, "<A:>LX<TA;>;", "<Name:>LX<TName;>;");
        alike(1, 1, "<A:TB;B:LX<TA;>;>(TA;)TB;^TA;", "<B:TA;A:LX<TB;>;>(TB;)TA;^TB;");
        alike(1, 1, "<L:>(TL;)V", "<T:>(TT;)V");
        alike(1, 1, "<A:LX;L:>(TL;)V", "<A:LX;B:>(TB;)V");
        alike(0, 2, "TA;", "TB;");
        alike(0, 0, "LA;", "LB;");
    }

    private static void alikeInTheirOrder() {
        CHECK.sentence("by giving its parameters, in their order, the names of the first one's");
        alike(1, 1, "<A:B:>(TA;TB;)V", "<B:A:>(TB;TA;)V");
        alike(0, 1, "<A:B:>(TA;TB;)V", "<B:A:>(TA;TB;)V");
        alike(0, 1, "<A:B:>(TA;)V", "<A:B:>(TB;)V");
        alike(0, 1, "<A:LX;B:>()V", "<B:A:LX;>()V");
        alike(1, 1, "<A:B:C:>(TA;TB;TC;)V", "<B:C:A:>(TB;TC;TA;)V");
    }

    private static void alikeCharacterByCharacter() {
        CHECK.sentence("if the second one becomes, character by character in WRITTEN, the first one");
        alike(0, 1, "<A:LX;>()V", "<A::LX;>()V");
        alike(0, 1, "<A:>(TA;)V", "<A:>(TA;)I");
        alike(0, 1, "()V", "()V^LX;");
        alike(0, 1, "()V^LX;", "()V^LX;^LX;");
        alike(0, 2, "La.b;", "La/b;");
        alike(0, 2, "La<+LA;>;", "La<-LA;>;");
        alike(0, 0, "LA;", "LA;LA;");
        alike(0, 1, "(TA;)V", "(LA;)V");
        alike(0, 2, "[I", "[[I");
        alike(0, 2, "TA;", "TAA;");
    }

    /** A CLASS with the name of a parameter is no VARIABLE. */
    private static void alikeOnlyOwnVariables() {
        CHECK.sentence("and its VARIABLEs that its own parameters declare the new names of these");
        alike(1, 1, "<A:>(LA;TA;)V", "<B:>(LA;TB;)V");
        alike(0, 1, "<A:>(LA;TA;)V", "<B:>(LB;TB;)V");
        alike(0, 1, "<A:>(TA;)V", "<B:>(TA;)V");
        alike(1, 1, "<A:>(TA;TX;)V", "<B:>(TB;TX;)V");
        alike(0, 1, "<A:>(TA;TX;)V", "<B:>(TB;TY;)V");
        alike(1, 1, "<A:>(TAB;TA;)V", "<B:>(TAB;TB;)V");
    }

    private static void alikeAsManyParameters() {
        CHECK.sentence("and they have as many parameters");
        alike(0, 1, "()V", "<A:>()V");
        alike(0, 1, "<A:>()V", "<A:B:>()V");
        alike(0, 0, "<A:LX;>LX;", "<A:LX;B:>LX;");
        alike(1, 0, "<A:LX;B:>LX;", "<A:LX;C:>LX;");
    }

    /** With the names given, these texts are the same, but one X is declared and the other is not. */
    private static void alikeBothOrNeither() {
        CHECK.sentence("at each place where both then have the same VARIABLE, "
                + "both or neither of them are declared by their own parameters");
        alike(0, 1, "<X:>(TX;)V", "<A:>(TX;)V");
        alike(0, 1, "<A:X:>(TA;TX;)V", "<A:B:>(TA;TX;)V");
        alike(0, 0, "<X:[TX;>LC;", "<A:[TX;>LC;");
        alike(0, 1, "<X:>(TX;TX;)V", "<A:>(TA;TX;)V");
        SignatureForest forest = Check.forest("0 <X:>LC;", "1 (TX;)V", "1 (TX;)V", "1 <X:>(TX;)V", "1 <X:>(TX;)V");
        forest.scope(1, 0);
        forest.scope(3, 0);
        CHECK.same("the scope's and a free one", forest.alike(1, 2), 1);
        CHECK.same("a free one and the scope's", forest.alike(2, 1), 1);
        CHECK.same("own ones", forest.alike(3, 4), 1);
    }

    private static void alikeRefused() {
        CHECK.sentence("alike: REFUSED");
        SignatureForest forest = Check.forest("0 LA;", "2 LA;", "1 ()V");
        for (int none : NONE) {
            for (int made = 0; made < 3; made++) {
                CHECK.refused("alike(" + made + ", " + none + ")", forest.alike(made, none));
                CHECK.refused("alike(" + none + ", " + made + ")", forest.alike(none, made));
            }
            CHECK.refused("alike(" + none + ", itself)", forest.alike(none, none));
        }
    }

    private static void clash(int want, String one, String other) {
        SignatureForest forest = Check.forest("1 " + one, "1 " + other);
        CHECK.same("clash of " + one + " and " + other, forest.clash(0, 1), want);
        CHECK.same("clash of " + other + " and " + one, forest.clash(1, 0), want);
        CHECK.same("clash of " + other + " and itself", forest.clash(1, 1), 1);
    }

    private static void clashErased() {
        CHECK.sentence("1 if the two signatures are methods whose TYPEs between ( and ), "
                + "erased, are the same, 0 if not");
        clash(1, "()V", "()V");
        clash(0, "()V", "(I)V");
        clash(0, "(I)V", "(II)V");
        clash(0, "(II)V", "(J)V");
        clash(0, "(I)V", "(J)V");
        clash(0, "(I)V", "([I)V");
        clash(0, "(LA;)V", "(LB;)V");
        clash(0, "(LA;LB;)V", "(LB;LA;)V");
        clash(1, "(La<*>;)V", "(La<[I>;)V");
        clash(1, "(La.b;)V", "(La$b;)V");
        clash(0, "(La.b;)V", "(La/b;)V");
        clash(1, "(TA;)V", "<B:>(TB;)V");
        clash(1, "(TA;)V", "(Ljava/lang/Object;)V");
        clash(1, "<A:[I>([TA;)V", "([[I)V");
        clash(0, "<A:LX;>(TA;)V", "<A:LY;>(TA;)V");
        clash(1, "<A:LX;:LY;>(TA;)V", "<A:LX;:LZ;>(TA;)V");
    }

    private static void clashOnlyBetweenTheBrackets() {
        CHECK.sentence("whose TYPEs between ( and )");
        clash(1, "()V", "()I");
        clash(1, "(I)LA;", "(I)V^LX;");
        clash(1, "<A:>()V", "<A:LX;B:>()TB;");
        clash(1, "()V^LX;", "()V^TX;");
    }

    private static void clashRefused() {
        CHECK.sentence("REFUSED for no such signature, or one that is no method");
        SignatureForest forest = Check.forest("0 LA;", "2 LA;", "1 ()V");
        for (int a = 0; a < 3; a++) {
            for (int b = 0; b < 3; b++) {
                int want = a == 2 && b == 2 ? 1 : SignatureForest.REFUSED;
                CHECK.same("clash(" + a + ", " + b + ")", forest.clash(a, b), want);
            }
            for (int none : NONE) {
                CHECK.refused("clash(" + a + ", " + none + ")", forest.clash(a, none));
                CHECK.refused("clash(" + none + ", " + a + ")", forest.clash(none, a));
            }
        }
    }

    private static void parameterCounts() {
        CHECK.sentence("How many parameters the signature has");
        SignatureForest forest = Check.forest("0 LA;", "1 ()V", "2 LA<*>;", "1 <A:>()V", "0 <A:[ILB:TA;T::LX;:LY;>LA;",
                "1 <A:B:C:D:E:F:G:H:I:J:K:M:N:O:P:Q:R:>()V");
        int[] want = {0, 0, 0, 1, 3, 17};
        for (int s = 0; s < want.length; s++) {
            CHECK.same("parameters(" + s + ")", forest.parameters(s), want[s]);
        }
        CHECK.same("fill", forest.fill(5, 16, 2), 6);
        CHECK.same("one less", forest.parameters(6), 16);
        CHECK.same("fill of a lone one", forest.fill(3, 0, 2), 7);
        CHECK.same("none left", forest.parameters(7), 0);
    }

    private static void parametersRefused() {
        CHECK.sentence("parameters: REFUSED");
        SignatureForest forest = Check.forest("0 LA;", "1 ()V", "2 LA;");
        for (int none : NONE) {
            CHECK.refused("parameters(" + none + ")", forest.parameters(none));
        }
    }

    private static void boundCounts() {
        CHECK.sentence("How many bounds the parameter k of the signature has");
        SignatureForest forest = Check.forest("0 <A:B:LX;C::LX;D:[I:TA;E::TA;:LX;>LA;",
                "1 <A::Ta;:Ta;:Ta;:Ta;:Ta;:Ta;:Ta;:Ta;>()V", "0 <A:La<Lb;Tc;>;B:>LA;LB;");
        int[] want = {0, 1, 1, 2, 2};
        for (int k = 0; k < want.length; k++) {
            CHECK.same("bounds(0, " + k + ")", forest.bounds(0, k), want[k]);
        }
        CHECK.same("bounds(1, 0)", forest.bounds(1, 0), 8);
        CHECK.same("bounds(2, 0)", forest.bounds(2, 0), 1);
        CHECK.same("bounds(2, 1)", forest.bounds(2, 1), 0);
    }

    private static void boundsRefused() {
        CHECK.sentence("REFUSED for no such signature or parameter");
        SignatureForest forest = Check.forest("0 LA;", "1 <A:B:LX;C:>()V", "2 LA;");
        CHECK.same("the last", forest.bounds(1, 2), 0);
        for (int none : NONE) {
            CHECK.refused("bounds(1, " + none + ")", forest.bounds(1, none));
            CHECK.refused("bounds(" + none + ", 0)", forest.bounds(none, 0));
            CHECK.refused("bounds(0, " + none + ")", forest.bounds(0, none));
        }
        CHECK.refused("bounds(0, 0)", forest.bounds(0, 0));
        CHECK.refused("bounds(2, 0)", forest.bounds(2, 0));
    }

    private static void measured(int want, int what, int kind, String text) {
        SignatureForest forest = Check.forest(kind + " " + text);
        CHECK.same("measure " + what + " of " + text, forest.measure(0, what), want);
    }

    private static void freeVariables() {
        CHECK.sentence("How many VARIABLEs in the signature, places counted, are FREE (0)");
        measured(0, 0, 2, "LT;");
        measured(1, 0, 2, "TT;");
        measured(2, 0, 2, "La<TT;TT;>;");
        measured(12, 0, 1, "(" + "TA;".repeat(12) + ")V");
        measured(5, 0, 1, "<A:TX;:La<+TX;>;>([TX;)TX;^TX;");
        measured(0, 0, 1, "<A:TA;>(TA;)TA;^TA;");
    }

    private static void ownVariables() {
        CHECK.sentence("declared by its own parameters (1)");
        measured(0, 1, 2, "TT;");
        measured(0, 1, 1, "<A:>()V");
        measured(5, 1, 1, "<A:TA;:La<+TA;>;>([TA;)TA;^TA;");
        measured(1, 1, 1, "<A:TB;B:>(TX;)V");
        measured(3, 1, 0, "<A:B:>La<TA;TB;TA;TC;>;");
    }

    private static void variablesOfTheScope() {
        CHECK.sentence("by its scope (2)");
        SignatureForest forest = Check.forest("0 <A:B:>LC<TA;>;", "1 <B:TA;>(TA;TB;TC;)TA;^TA;", "0 <C:>LC;");
        CHECK.same("without a scope", forest.measure(1, 2), 0);
        forest.scope(1, 0);
        CHECK.same("in the scope", forest.measure(1, 2), 4);
        CHECK.same("own in the scope", forest.measure(1, 1), 1);
        CHECK.same("free in the scope", forest.measure(1, 0), 1);
        forest.scope(1, 2);
        CHECK.same("in the other scope", forest.measure(1, 2), 1);
        CHECK.same("free in the other scope", forest.measure(1, 0), 4);
        CHECK.same("the scope itself", forest.measure(0, 2), 0);
    }

    private static void classesAtAnyDepth() {
        CHECK.sentence("how many CLASSes it has, at any depth (3)");
        measured(0, 3, 2, "[I");
        measured(0, 3, 2, "TL;");
        measured(1, 3, 2, "LL/L.L;");
        measured(13, 3, 0, "La;".repeat(13));
        measured(7, 3, 2, "La<".repeat(7) + "*" + ">;".repeat(7));
        measured(7, 3, 1, "<L:La;:[Lb<Lc;>;>(Ld;)Le;^Lf;^Lg;");
        measured(4, 3, 2, "La<+Lb;-[Lc;>.d<Le;>;");
    }

    private static void depthWithoutArguments() {
        CHECK.sentence("0 without ARGUMENTS");
        measured(0, 4, 2, "La/b.c;");
        measured(0, 4, 0, "<A:LX;>LA;");
        measured(0, 4, 1, "<A:>()V");
    }

    private static void depthOfArguments() {
        CHECK.sentence("else one more than the greatest of what stands within (4)");
        measured(1, 4, 2, "La<*>;");
        measured(1, 4, 2, "La<*>.b<*>.c<*>;");
        measured(1, 4, 0, "La<*>;Lb<*>;");
        measured(2, 4, 2, "La<*+[Lb<*>;*>;");
        measured(3, 4, 2, "La<Lb<Lc<*>;>;>.d<*>;");
        measured(2, 4, 0, "<A:La<Lb<*>;>;>La<*>;");
        measured(2, 4, 1, "()V^La<Lb<*>;>;");
        measured(7, 4, 2, "La<".repeat(7) + "*" + ">;".repeat(7));
        SignatureForest forest = Check.forest("0 <T:>La<Lb<Lc<Ld<Le<TT;>;>;>;>;>;",
                "2 " + "La<".repeat(7) + "*" + ">;".repeat(7));
        CHECK.same("fill", forest.fill(0, 0, 1), 2);
        CHECK.same("the depth behind fill", forest.measure(2, 4), 12);
    }

    private static void squareBrackets() {
        CHECK.sentence("the greatest number of square brackets right one after another (5)");
        measured(0, 5, 2, "La;");
        measured(1, 5, 2, "[I");
        measured(39, 5, 2, "[".repeat(39) + "I");
        measured(2, 5, 1, "([I[[I[I)[I");
        measured(3, 5, 1, "()[[[I");
        measured(1, 5, 2, "[La<[Lb<[I>;>;");
        measured(2, 5, 0, "<A:[I:[[I>LA;");
        SignatureForest forest = Check.forest("1 <T:>([I" + "[".repeat(20) + "TT;[[I)V", "2 " + "[".repeat(39) + "I");
        CHECK.same("fill", forest.fill(0, 0, 1), 2);
        CHECK.same("the brackets behind fill", forest.measure(2, 5), 59);
    }

    private static void measureRefused() {
        CHECK.sentence("measure: REFUSED");
        SignatureForest forest = Check.forest("0 LA;", "1 <A:>(TA;)V", "2 LA;");
        for (int none : NONE) {
            for (int what = -1; what <= 6; what++) {
                CHECK.refused("measure(" + none + ", " + what + ")", forest.measure(none, what));
            }
        }
        for (int what : new int[] {-1, 6, 7, Integer.MIN_VALUE, Integer.MAX_VALUE}) {
            CHECK.refused("measure(1, " + what + ")", forest.measure(1, what));
        }
        CHECK.same("the last measure", forest.measure(1, 5), 0);
    }
}
