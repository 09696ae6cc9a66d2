/** The edges of signatures and scopes, and of what declares a VARIABLE: one sentence a test. */
public final class ScopeEdgeTest {
    private static final Check CHECK = new Check("ScopeEdgeTest");
    private static final String OBJECT = "Ljava/lang/Object;";

    public static void main(String[] args) {
        numbersAreFromZero();
        atMostTwentyFourAreMade();
        eachMayHaveAScope();
        declaredByTheSameSignature();
        declaredByTheScope();
        free();
        scopesOfScopes();
        aScopeOfKindZero();
        aScopeNotItself();
        takenAway();
        answersTheOneBefore();
        refusedScopes();
        CHECK.end();
    }

    private static void numbersAreFromZero() {
        CHECK.sentence("SIGNATURES are numbered 0, 1, .. as they are made");
        SignatureForest forest = new SignatureForest();
        CHECK.same("the first read", Check.read(forest, 1, "<A:>(TA;)V"), 0);
        CHECK.same("a fault between", Check.read(forest, 1, "("), -2);
        CHECK.same("the second read", Check.read(forest, 2, "LX;"), 1);
        CHECK.same("a fill", forest.fill(0, 0, 1), 2);
        CHECK.refused("a refused fill", forest.fill(0, 1, 1));
        CHECK.same("the third read", Check.read(forest, 0, "LY;"), 3);
        CHECK.hasText(forest, 2, Check.WRITTEN, "(LX;)V");
        CHECK.hasText(forest, 3, Check.WRITTEN, "LY;");
    }

    private static void atMostTwentyFourAreMade() {
        CHECK.sentence("at most 24 are made");
        SignatureForest forest = Check.forest("1 <A:>(TA;)V", "2 LX;");
        for (int i = 2; i < 24; i++) {
            int number = i % 2 == 0 ? forest.fill(0, 0, 1) : Check.read(forest, 2, "[I");
            CHECK.same("no. " + i, number, i);
        }
        CHECK.same("count(0)", forest.count(0), 24);
        CHECK.refused("a fill too many", forest.fill(0, 0, 1));
        CHECK.refused("a read too many", Check.read(forest, 2, "[I"));
        CHECK.same("count(0) behind them", forest.count(0), 24);
        CHECK.hasText(forest, 22, Check.WRITTEN, "(LX;)V");
        CHECK.hasText(forest, 23, Check.WRITTEN, "[I");
        CHECK.refused("kind(24)", forest.kind(24));
    }

    private static void eachMayHaveAScope() {
        CHECK.sentence("Each may have a SCOPE, a signature of kind 0");
        SignatureForest forest = Check.forest("0 <A:LX;>LA;", "0 <B:>LB;", "1 (TA;)V", "2 TA;");
        for (int s = 1; s < 4; s++) {
            CHECK.same("the scope of a new one", forest.scope(s, 0), -1);
            CHECK.same("the scope given", forest.scope(s, 0), 0);
        }
        CHECK.hasText(forest, 2, Check.ERASED, "(LX;)V");
        CHECK.hasText(forest, 3, Check.ERASED, "LX;");
    }

    /** A method with a parameter of the same name as one of its scope. */
    private static void declaredByTheSameSignature() {
        CHECK.sentence("A VARIABLE is DECLARED by the parameter of the same signature with its name");
        SignatureForest forest = Check.forest("0 <A:LX;>LA;", "1 <A:LY;>(TA;)V", "1 <A:>(TA;)V");
        for (int s = 1; s < 3; s++) {
            forest.scope(s, 0);
            CHECK.same("own", forest.measure(s, 1), 1);
            CHECK.same("the scope's", forest.measure(s, 2), 0);
            CHECK.same("free", forest.measure(s, 0), 0);
        }
        CHECK.hasText(forest, 1, Check.ERASED, "(LY;)V");
        CHECK.hasText(forest, 2, Check.ERASED, "(" + OBJECT + ")V");
    }

    private static void declaredByTheScope() {
        CHECK.sentence("if there is none, by the one of its scope with its name");
        SignatureForest forest = Check.forest("0 <A:LX;AB:LY;>LA;", "1 <B:>(TA;TAB;)V", "2 TA;");
        CHECK.same("before", forest.measure(1, 2), 0);
        forest.scope(1, 0);
        forest.scope(2, 0);
        CHECK.same("in the scope", forest.measure(1, 2), 2);
        CHECK.same("a field in the scope", forest.measure(2, 2), 1);
        CHECK.hasText(forest, 1, Check.ERASED, "(LX;LY;)V");
    }

    /** Names that are only parts of others, or written otherwise, are other names. */
    private static void free() {
        CHECK.sentence("if there is none, it is FREE");
        SignatureForest forest = Check.forest("0 <AB:LX;A:LY;>LA;", "1 <BA:>(TAA;TB;TABC;Ta;)V", "2 TA;");
        forest.scope(1, 0);
        CHECK.same("free", forest.measure(1, 0), 4);
        CHECK.same("own", forest.measure(1, 1), 0);
        CHECK.same("the scope's", forest.measure(1, 2), 0);
        CHECK.same("without a scope", forest.measure(2, 0), 1);
        forest.scope(2, 0);
        CHECK.same("with a scope", forest.measure(2, 0), 0);
        forest.scope(2, -1);
        CHECK.same("without it again", forest.measure(2, 0), 1);
    }

    private static void scopesOfScopes() {
        CHECK.sentence("(Scopes of scopes do not count.)");
        SignatureForest forest = Check.forest("0 <X:LX;>LA;", "0 <Y:>LB;", "2 TX;", "0 <X:LZ;>LC<TX;>;");
        forest.scope(1, 0);
        forest.scope(2, 1);
        CHECK.same("free", forest.measure(2, 0), 1);
        CHECK.same("the scope's", forest.measure(2, 2), 0);
        CHECK.hasText(forest, 2, Check.ERASED, OBJECT);
        forest.scope(0, 1);
        CHECK.same("free in a ring of scopes", forest.measure(2, 0), 1);
        CHECK.same("own in a scope", forest.measure(3, 1), 1);
    }

    private static void aScopeOfKindZero() {
        CHECK.sentence("a scope, which must be a signature of kind 0");
        SignatureForest forest = Check.forest("0 LA;", "1 ()V", "2 LA;", "2 LB;");
        forest.scope(3, 0);
        CHECK.refused("a method as scope", forest.scope(3, 1));
        CHECK.refused("a field as scope", forest.scope(3, 2));
        CHECK.refused("no signature as scope", forest.scope(3, 4));
        CHECK.refused("no. 24 as scope", forest.scope(3, 24));
        CHECK.same("the scope is as before", forest.scope(3, 0), 0);
    }

    private static void aScopeNotItself() {
        CHECK.sentence("and not itself");
        SignatureForest forest = Check.forest("0 LA;", "0 LA;");
        CHECK.refused("scope(0, 0)", forest.scope(0, 0));
        CHECK.refused("scope(1, 1)", forest.scope(1, 1));
        CHECK.same("its like", forest.scope(0, 1), -1);
        CHECK.refused("scope(0, 0) with a scope", forest.scope(0, 0));
        CHECK.same("the scope is as before", forest.scope(0, 1), 1);
        CHECK.same("each the scope of the other", forest.scope(1, 0), -1);
    }

    private static void takenAway() {
        CHECK.sentence("or takes its scope away (-1)");
        SignatureForest forest = Check.forest("0 <A:LX;>LA;", "2 TA;");
        CHECK.same("none to take away", forest.scope(1, -1), -1);
        forest.scope(1, 0);
        CHECK.hasText(forest, 1, Check.ERASED, "LX;");
        CHECK.same("taken away", forest.scope(1, -1), 0);
        CHECK.hasText(forest, 1, Check.ERASED, OBJECT);
        CHECK.same("none again", forest.scope(1, -1), -1);
        CHECK.refused("-2", forest.scope(1, -2));
        CHECK.refused("MIN", forest.scope(1, Integer.MIN_VALUE));
    }

    private static void answersTheOneBefore() {
        CHECK.sentence("answers the scope that it had before, or -1");
        SignatureForest forest = Check.forest("2 TA;", "0 LA;", "0 LB;");
        CHECK.same("the first", forest.scope(0, 1), -1);
        CHECK.same("another", forest.scope(0, 2), 1);
        CHECK.same("the same", forest.scope(0, 2), 2);
        CHECK.same("taken away", forest.scope(0, -1), 2);
        CHECK.same("given again", forest.scope(0, 1), -1);
        CHECK.same("another has none", forest.scope(1, 2), -1);
    }

    private static void refusedScopes() {
        CHECK.sentence("scope: REFUSED");
        SignatureForest forest = Check.forest("0 LA;", "0 LB;");
        int[] none = {-1, 2, 24, Integer.MIN_VALUE, Integer.MAX_VALUE};
        for (int number : none) {
            CHECK.refused("scope(" + number + ", 0)", forest.scope(number, 0));
            CHECK.refused("scope(" + number + ", -1)", forest.scope(number, -1));
            CHECK.refused("scope(" + number + ", itself)", forest.scope(number, number));
        }
        CHECK.refused("scope(0, MAX)", forest.scope(0, Integer.MAX_VALUE));
        CHECK.same("no scope was given", forest.scope(0, -1), -1);
        CHECK.same("none to the other either", forest.scope(1, -1), -1);
    }
}
