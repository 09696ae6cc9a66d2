/** Promise 5: scope, and what a scope declares. */
public final class ScopeTest {
    private static final Check CHECK = new Check("ScopeTest");
    private static final String OBJECT = "Ljava/lang/Object;";

    public static void main(String[] args) {
        answersTheOneBefore();
        refuses();
        refusalsChangeNothing();
        declaresWhatIsNotOwn();
        scopesOfScopesDoNotCount();
        CHECK.end();
    }

    private static void answersTheOneBefore() {
        SignatureForest forest = Check.forest("2 LA;", "0 LA;", "0 LB;");
        CHECK.same("scope(0, -1) without one", forest.scope(0, -1), -1);
        CHECK.same("scope(0, 1)", forest.scope(0, 1), -1);
        CHECK.same("scope(0, 2)", forest.scope(0, 2), 1);
        CHECK.same("scope(0, 2) again", forest.scope(0, 2), 2);
        CHECK.same("scope(0, -1)", forest.scope(0, -1), 2);
        CHECK.same("scope(0, 1) again", forest.scope(0, 1), -1);
        CHECK.same("a class in a class", forest.scope(1, 2), -1);
        CHECK.same("and around", forest.scope(2, 1), -1);
    }

    private static void refuses() {
        SignatureForest forest = Check.forest("2 LA;", "0 LA;", "1 ()V");
        CHECK.refused("itself", forest.scope(1, 1));
        CHECK.refused("a field", forest.scope(1, 0));
        CHECK.refused("a method", forest.scope(1, 2));
        CHECK.refused("not made", forest.scope(0, 3));
        CHECK.refused("less than -1", forest.scope(0, -2));
        CHECK.refused("far below", forest.scope(0, Integer.MIN_VALUE));
        CHECK.refused("of none", forest.scope(3, 1));
        CHECK.refused("of -1", forest.scope(-1, 1));
        CHECK.refused("taken from none", forest.scope(3, -1));
    }

    private static void refusalsChangeNothing() {
        SignatureForest forest = Check.forest("2 LA;", "0 LA;", "1 ()V");
        forest.scope(0, 1);
        forest.scope(0, 0);
        forest.scope(0, 2);
        forest.scope(0, 9);
        forest.scope(0, -7);
        CHECK.same("the scope behind refusals", forest.scope(0, -1), 1);
    }

    private static void declaresWhatIsNotOwn() {
        SignatureForest forest = Check.forest("0 <T:LA;U:LB;>LC;", "1 <T:LD;>(TT;TU;TV;)V", "2 TU;");
        CHECK.hasText(forest, 1, Check.ERASED, "(LD;" + OBJECT + OBJECT + ")V");
        forest.scope(1, 0);
        CHECK.hasText(forest, 1, Check.ERASED, "(LD;LB;" + OBJECT + ")V");
        forest.scope(2, 0);
        CHECK.hasText(forest, 2, Check.ERASED, "LB;");
        forest.scope(2, -1);
        CHECK.hasText(forest, 2, Check.ERASED, OBJECT);
    }

    private static void scopesOfScopesDoNotCount() {
        SignatureForest forest = Check.forest("0 <X:LX;>LA;", "0 <Y:TX;>LB;", "1 (TX;TY;)V");
        forest.scope(1, 0);
        forest.scope(2, 1);
        CHECK.hasText(forest, 2, Check.ERASED, "(" + OBJECT + OBJECT + ")V");
        CHECK.same("free ones", forest.measure(2, 0), 1);
        CHECK.same("the scope's", forest.measure(2, 2), 1);
    }
}
