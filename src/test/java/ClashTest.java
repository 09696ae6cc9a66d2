/** Promise 10: clash. */
public final class ClashTest {
    private static final Check CHECK = new Check("ClashTest");

    public static void main(String[] args) {
        clashing();
        notClashing();
        scopesMatter();
        refuses();
        CHECK.end();
    }

    private static void both(String one, String other, int want) {
        SignatureForest forest = Check.forest("1 " + one, "1 " + other);
        CHECK.same("clash of " + one + " and " + other, forest.clash(0, 1), want);
        CHECK.same("clash of " + other + " and " + one, forest.clash(1, 0), want);
        CHECK.same("clash of " + one + " and itself", forest.clash(0, 0), 1);
    }

    private static void clashing() {
        both("()V", "()I^LX;", 1);
        both("(TT;)V", "(Ljava/lang/Object;)I", 1);
        both("(La.b;)V", "(La$b;)V", 1);
        both("(La<*>.b;)V", "(La.b<TT;>;)V", 1);
        both("<T::LA;>(TT;[TT;)V", "(LA;[LA<*>;)V", 1);
        both("<T:[I>(TT;)V", "([I)TT;", 1);
        both("<T:[[I>([TT;)V", "([[[I)V", 1);
        both("<A:>(TA;)V", "<B:TB;>(TB;)V", 1);
    }

    private static void notClashing() {
        both("()V", "(I)V", 0);
        both("(II)V", "(I)V", 0);
        both("(I)V", "(J)V", 0);
        both("([I)V", "(I)V", 0);
        both("([I)V", "([[I)V", 0);
        both("(LA;)V", "(LAA;)V", 0);
        both("(La/b;)V", "(La.b;)V", 0);
        both("(LA;LB;)V", "(LB;LA;)V", 0);
        both("<T:LA;>(TT;)V", "<T:LB;>(TT;)V", 0);
        both("(TT;)V", "([TT;)V", 0);
    }

    private static void scopesMatter() {
        SignatureForest forest = Check.forest("0 <T:LA;>LC;", "1 (TT;)V", "1 (LA;)V", "1 (TT;)V");
        CHECK.same("clash without scopes", forest.clash(1, 2), 0);
        forest.scope(1, 0);
        CHECK.same("clash in a scope", forest.clash(1, 2), 1);
        CHECK.same("clash of one in a scope", forest.clash(1, 3), 0);
        forest.scope(3, 0);
        CHECK.same("clash of both in a scope", forest.clash(3, 1), 1);
    }

    private static void refuses() {
        SignatureForest forest = Check.forest("1 ()V", "0 LA;", "2 LA;");
        CHECK.refused("clash of a class", forest.clash(0, 1));
        CHECK.refused("clash with a class", forest.clash(1, 0));
        CHECK.refused("clash of a field", forest.clash(0, 2));
        CHECK.refused("clash of two fields", forest.clash(2, 2));
        CHECK.refused("clash(0, 3)", forest.clash(0, 3));
        CHECK.refused("clash(-1, 0)", forest.clash(-1, 0));
    }
}
