/** Promise 9: alike. */
public final class AlikeTest {
    private static final Check CHECK = new Check("AlikeTest");

    public static void main(String[] args) {
        alikeOnes();
        unlikeOnes();
        scopesDoNotMatter();
        refuses();
        CHECK.end();
    }

    private static void both(int kind, String one, String other, int want) {
        SignatureForest forest = Check.forest(kind + " " + one, kind + " " + other);
        CHECK.same("alike of " + one + " and " + other, forest.alike(0, 1), want);
        CHECK.same("alike of " + other + " and " + one, forest.alike(1, 0), want);
        CHECK.same("alike of " + one + " and itself", forest.alike(0, 0), 1);
    }

    private static void alikeOnes() {
        both(2, "La<TT;*>.b;", "La<TT;*>.b;", 1);
        both(1, "<T:>(TT;)V", "<U:>(TU;)V", 1);
        both(1, "<T:>(TT;TX;)V", "<Long:>(TLong;TX;)V", 1);
        both(1, "<A:B:>(TA;TB;)V", "<B:A:>(TB;TA;)V", 1);
        both(1, "<A:TB;B::LI<TA;>;>()TB;^TA;", "<BB:TA;A::LI<TBB;>;>()TA;^TBB;", 1);
        both(0, "<A:LX;B:[TA;>LC<TB;>;LD;", "<Tx:LX;Ty:[TTx;>LC<TTy;>;LD;", 1);
        both(1, "<A:>(LA;)V", "<B:>(LA;)V", 1);
    }

    private static void unlikeOnes() {
        both(2, "TT;", "TU;", 0);
        both(2, "LT;", "TT;", 0);
        both(1, "<A:B:>(TA;TB;)V", "<A:B:>(TB;TA;)V", 0);
        both(1, "<A:B:>(TA;)V", "<B:A:>(TA;)V", 0);
        both(1, "<A:>(TA;TX;)V", "<X:>(TX;TX;)V", 0);
        both(1, "<A:>(TA;)V", "<A:B:>(TA;)V", 0);
        both(1, "<A:>(TX;)V", "<X:>(TX;)V", 0);
        both(1, "<A:>(TX;)V", "<X:>(TA;)V", 0);
        both(1, "<A:>(TA;)V", "<B:>(TA;)V", 0);
        both(1, "(TA;)V", "<A:>(TA;)V", 0);
        both(1, "<A:LX;>(TA;)V", "<B::LX;>(TB;)V", 0);
        both(1, "<A:>(LA;)V", "<B:>(LB;)V", 0);
        both(1, "()V", "()V^LX;", 0);
        both(1, "<A:>()V", "<A:>()I", 0);
        both(1, "<A:LX;>(TA;)V", "<A:LX;:LX;>(TA;)V", 0);
        both(1, "<A:B:LX;>()V", "<A:LX;B:>()V", 0);
        SignatureForest forest = Check.forest("0 LA;", "2 LA;");
        CHECK.same("alike of two kinds", forest.alike(0, 1), 0);
    }

    private static void scopesDoNotMatter() {
        SignatureForest forest = Check.forest("0 <A:>LC;", "2 TA;", "2 TA;", "1 <A:>(TA;)V", "1 <A:>(TA;)V");
        forest.scope(1, 0);
        forest.scope(3, 0);
        CHECK.same("the scope's and a free one", forest.alike(1, 2), 1);
        CHECK.same("own ones, one with a scope", forest.alike(3, 4), 1);
    }

    private static void refuses() {
        SignatureForest forest = Check.forest("2 LA;");
        CHECK.refused("alike(0, 1)", forest.alike(0, 1));
        CHECK.refused("alike(1, 0)", forest.alike(1, 0));
        CHECK.refused("alike(-1, 0)", forest.alike(-1, 0));
        CHECK.refused("alike(0, -1)", forest.alike(0, -1));
        CHECK.refused("alike(7, 7)", forest.alike(7, 7));
    }
}
