/** Promises 12, 13 and 14: parameters, bounds and measure. */
public final class MeasureTest {
    private static final Check CHECK = new Check("MeasureTest");

    public static void main(String[] args) {
        parametersAreCounted();
        boundsAreCounted();
        variablesAreCounted();
        classesAreCounted();
        depthOfArguments();
        runsOfBrackets();
        wrongMeasures();
        CHECK.end();
    }

    private static void parametersAreCounted() {
        SignatureForest forest = Check.forest("0 <A:B:LX;C::TA;:LY;>LC;", "1 ()V", "2 La<*>;",
                "0 <A:B:C:D:E:F:G:H:I:J:K:M:N:O:P:Q:R:>Lx;");
        CHECK.same("parameters(0)", forest.parameters(0), 3);
        CHECK.same("parameters(1)", forest.parameters(1), 0);
        CHECK.same("parameters(2)", forest.parameters(2), 0);
        CHECK.same("parameters(3)", forest.parameters(3), 17);
        CHECK.refused("parameters(4)", forest.parameters(4));
        CHECK.refused("parameters(-1)", forest.parameters(-1));
    }

    private static void boundsAreCounted() {
        SignatureForest forest = Check.forest("0 <A:B:LX;C::TA;:LY;D:[I:LZ;:LU;>LC;", "1 <L::La<Lb;>;>()V", "2 LA;");
        CHECK.same("bounds(0, 0)", forest.bounds(0, 0), 0);
        CHECK.same("bounds(0, 1)", forest.bounds(0, 1), 1);
        CHECK.same("bounds(0, 2)", forest.bounds(0, 2), 2);
        CHECK.same("bounds(0, 3)", forest.bounds(0, 3), 3);
        CHECK.same("bounds(1, 0)", forest.bounds(1, 0), 1);
        CHECK.refused("bounds(0, 4)", forest.bounds(0, 4));
        CHECK.refused("bounds(0, -1)", forest.bounds(0, -1));
        CHECK.refused("bounds(0, MAX)", forest.bounds(0, Integer.MAX_VALUE));
        CHECK.refused("bounds(2, 0)", forest.bounds(2, 0));
        CHECK.refused("bounds(3, 0)", forest.bounds(3, 0));
        CHECK.refused("bounds(-1, 0)", forest.bounds(-1, 0));
    }

    private static void measured(int kind, String text, int what, int want) {
        SignatureForest forest = Check.forest(kind + " " + text);
        CHECK.same("measure " + what + " of " + text, forest.measure(0, what), want);
    }

    private static void variablesAreCounted() {
        measured(2, "TT;", 0, 1);
        measured(2, "LT;", 0, 0);
        measured(1, "<A:TB;>(TA;TA;TX;)V^TA;", 1, 3);
        measured(1, "<A:TB;>(TA;TA;TX;)V^TA;", 0, 2);
        measured(1, "<A:TB;>(TA;TA;TX;)V^TA;", 2, 0);
        measured(0, "<A:La<TA;+TA;>;>LC<[TA;>.d<TA;>;", 1, 4);
        measured(1, "<TT:>(TT;TTT;)V", 1, 1);
        SignatureForest forest = Check.forest("0 <A:B:>LC;", "1 <B:TA;>(TA;TB;TC;)V");
        forest.scope(1, 0);
        CHECK.same("free in a scope", forest.measure(1, 0), 1);
        CHECK.same("own in a scope", forest.measure(1, 1), 1);
        CHECK.same("the scope's", forest.measure(1, 2), 2);
    }

    private static void classesAreCounted() {
        measured(2, "TT;", 3, 0);
        measured(2, "La/b/C.D;", 3, 1);
        measured(2, "[La<Lb<Lc;>;+Ld;>.e<Lf;>;", 3, 5);
        measured(1, "<A:LX;:LY<LZ;>;>(LL;)LL;^LL;", 3, 6);
        measured(0, "LA;LB;", 3, 2);
    }

    private static void depthOfArguments() {
        measured(2, "La;", 4, 0);
        measured(0, "<A:>La;", 4, 0);
        measured(2, "La<*>.b<*>;", 4, 1);
        measured(2, "La<Lb<*>;Lc<-Ld<[Le<*>;>;>;>;", 4, 4);
        measured(0, "<A:La<La<*>;>;>La<*>;", 4, 2);
        measured(2, "La<Lb;>.c<Ld<*>;>;", 4, 2);
    }

    private static void runsOfBrackets() {
        measured(2, "La;", 5, 0);
        measured(2, "[I", 5, 1);
        measured(1, "([[I[[[J[I)[[I", 5, 3);
        measured(2, "[La<[[TT;>;", 5, 2);
        measured(0, "<A:[[[[I>LA;", 5, 4);
        measured(2, "L]]];", 5, 0);
    }

    private static void wrongMeasures() {
        SignatureForest forest = Check.forest("2 LA;");
        CHECK.refused("measure(0, 6)", forest.measure(0, 6));
        CHECK.refused("measure(0, -1)", forest.measure(0, -1));
        CHECK.refused("measure(0, MIN)", forest.measure(0, Integer.MIN_VALUE));
        for (int what = 0; what < 6; what++) {
            CHECK.refused("measure(1, " + what + ")", forest.measure(1, what));
            CHECK.refused("measure(-1, " + what + ")", forest.measure(-1, what));
        }
    }
}
