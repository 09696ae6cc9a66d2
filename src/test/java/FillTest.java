/** Promise 11: fill. */
public final class FillTest {
    private static final Check CHECK = new Check("FillTest");

    public static void main(String[] args) {
        fills();
        takesTheScopeAlong();
        leavesTheOldOne();
        refusesArraysThrown();
        refusesWhatWouldReadOtherwise();
        refusesWrongNumbers();
        refusesLongOnes();
        refusesLongOnesThatCouldBeCut();
        refusesTheTwentyFifth();
        CHECK.end();
    }

    private static void filled(int kind, String old, int k, String field, String want) {
        SignatureForest forest = Check.forest(kind + " " + old, "2 " + field);
        String call = "fill of " + old + " at " + k + " with " + field;
        CHECK.same(call, forest.fill(0, k, 1), 2);
        CHECK.hasText(forest, 2, Check.WRITTEN, want);
        CHECK.same("kind behind " + call, forest.kind(2), kind);
        CHECK.same("count(0) behind " + call, forest.count(0), 3);
        SignatureForest again = Check.forest(kind + " " + want);
        CHECK.hasText(forest, 2, Check.SHOWN, Check.text(again, 0, Check.SHOWN));
        CHECK.hasText(forest, 2, Check.ERASED, Check.text(again, 0, Check.ERASED));
        CHECK.same("parameters behind " + call, forest.parameters(2), again.parameters(0));
    }

    private static void refused(String old, int k, String field) {
        SignatureForest forest = Check.forest("1 " + old, "2 " + field);
        CHECK.refused("fill of " + old + " at " + k + " with " + field, forest.fill(0, k, 1));
        CHECK.same("count(0) behind it", forest.count(0), 2);
    }

    private static void fills() {
        filled(1, "<T:>(TT;)TT;", 0, "LA;", "(LA;)LA;");
        filled(1, "<T:>()V", 0, "LA;", "()V");
        filled(1, "<T:LX<TT;>;>(TT;)V", 0, "[I", "([I)V");
        filled(1, "<T:>(TT;TX;LT;)V", 0, "TX;", "(TX;TX;LT;)V");
        filled(1, "<T:>([TT;)V", 0, "[TT;", "([[TT;)V");
        filled(1, "<A:B:TA;>(TA;TB;)V", 0, "[I", "<B:[I>([ITB;)V");
        filled(1, "<A:B:TA;C:>()V", 0, "[I", "<B:[IC:>()V");
        filled(1, "<A:B:TA;>(TA;TB;)V", 1, "LX;", "<A:>(TA;LX;)V");
        filled(1, "<A::TB;:La<TC;>;B:C:>()V", 2, "[[J", "<A::TB;:La<[[J>;B:>()V");
        filled(1, "<A:B:>(TA;TB;)V", 0, "TB;", "<B:>(TB;TB;)V");
        filled(1, "<A:B:>(TA;TB;)V", 0, "TA;", "<B:>(TA;TB;)V");
        filled(1, "<T:>()V^TT;^LX;", 0, "La<*>.b;", "()V^La<*>.b;^LX;");
        filled(1, "<T:>()V^TT;", 0, "TX;", "()V^TX;");
        filled(1, "<T:U:>(TT;)V^TU;", 0, "[I", "<U:>([I)V^TU;");
        filled(0, "<T:>LA<TT;>;LB<+TT;-[TT;>;", 0, "Lc;", "LA<Lc;>;LB<+Lc;-[Lc;>;");
        filled(0, "<T:U:La<TT;>;>LA;", 0, "TU;", "<U:La<TU;>;>LA;");
        filled(1, "<T:TT;>()V^LT;", 0, "[I", "()V^LT;");
    }

    private static void takesTheScopeAlong() {
        SignatureForest forest = Check.forest("0 <X:LY;>LC;", "1 <A:>(TA;)V", "2 TX;", "0 <X:LZ;>LC;");
        forest.scope(1, 0);
        forest.scope(2, 3);
        CHECK.same("fill", forest.fill(1, 0, 2), 4);
        CHECK.hasText(forest, 4, Check.ERASED, "(LY;)V");
        CHECK.same("the new one's scope", forest.scope(4, -1), 0);
        CHECK.same("fill without a field's scope", forest.fill(4, 0, 2), SignatureForest.REFUSED);
        forest.scope(1, -1);
        CHECK.same("fill again", forest.fill(1, 0, 2), 5);
        CHECK.same("the new one's lack of a scope", forest.scope(5, 3), -1);
    }

    private static void leavesTheOldOne() {
        SignatureForest forest = Check.forest("1 <A:B:TA;>(TA;TB;)V", "2 LX;");
        Check.type(forest, "abc");
        CHECK.same("fill", forest.fill(0, 0, 1), 2);
        CHECK.hasText(forest, 0, Check.WRITTEN, "<A:B:TA;>(TA;TB;)V");
        CHECK.hasText(forest, 1, Check.WRITTEN, "LX;");
        CHECK.same("count(1) behind fill", forest.count(1), 3);
        CHECK.same("fill of a filled one", forest.fill(2, 0, 1), 3);
        CHECK.hasText(forest, 3, Check.WRITTEN, "(LX;LX;)V");
    }

    private static void refusesArraysThrown() {
        refused("<T:>()V^TT;", 0, "[I");
        refused("<T:>()V^LX;^TT;", 0, "[LA;");
        refused("<T:U:>()V^TT;^TU;", 1, "[TT;");
    }

    private static void refusesWhatWouldReadOtherwise() {
        refused("<A:B:LX;L:>()V", 1, "LX;");
        refused("<A:B:LX;Tb:>()V", 1, "LX;");
        refused("<A:B:[ILb:LX;C:>()V", 1, "LX;");
        filled(1, "<A:LX;B:LX;L:>()V", 1, "LX;", "<A:LX;L:>()V");
        filled(1, "<A::LX;B:LX;T:>()V", 1, "LX;", "<A::LX;T:>()V");
        filled(1, "<A:B:LX;U:>()V", 1, "LX;", "<A:U:>()V");
        filled(1, "<B:LX;L:>()V", 0, "LX;", "<L:>()V");
        filled(1, "<A:B:LX;L:C:>()V", 3, "LX;", "<A:B:LX;L:>()V");
        filled(1, "<A:B:C:LX;L:>()V", 0, "LX;", "<B:C:LX;L:>()V");
        filled(1, "<A:B:LX;L:>()V", 2, "LX;", "<A:B:LX;>()V");
    }

    private static void refusesWrongNumbers() {
        SignatureForest forest = Check.forest("1 <A:>()V", "2 LX;", "0 LX;", "1 ()V");
        CHECK.refused("parameter 1", forest.fill(0, 1, 1));
        CHECK.refused("parameter -1", forest.fill(0, -1, 1));
        CHECK.refused("parameter MIN", forest.fill(0, Integer.MIN_VALUE, 1));
        CHECK.refused("parameter MAX", forest.fill(0, Integer.MAX_VALUE, 1));
        CHECK.refused("a field's parameter", forest.fill(1, 0, 1));
        CHECK.refused("a lack of parameters", forest.fill(3, 0, 1));
        CHECK.refused("a class for a field", forest.fill(0, 0, 2));
        CHECK.refused("a method for a field", forest.fill(0, 0, 0));
        CHECK.refused("no such field", forest.fill(0, 0, 4));
        CHECK.refused("field -1", forest.fill(0, 0, -1));
        CHECK.refused("no such signature", forest.fill(4, 0, 1));
        CHECK.refused("signature -1", forest.fill(-1, 0, 1));
        CHECK.same("count(0) behind refusals", forest.count(0), 4);
    }

    /** Three times a field of 38 characters, with six and with seven others. */
    private static void refusesLongOnes() {
        String longest = "L" + "a".repeat(36) + ";";
        SignatureForest forest = Check.forest("1 <T:>(TT;TT;TT;III)V", "2 " + longest, "1 <T:>(TT;TT;TT;IIII)V");
        CHECK.same("fill to 120", forest.fill(0, 0, 1), 3);
        CHECK.hasText(forest, 3, Check.WRITTEN, "(" + longest.repeat(3) + "III)V");
        CHECK.hasText(forest, 3, Check.SHOWN, "(" + ("a".repeat(36) + ",").repeat(3) + "int,int,int)void");
        CHECK.refused("fill to 121", forest.fill(2, 0, 1));
        CHECK.same("count(0) behind it", forest.count(0), 4);
        SignatureForest other = Check.forest("1 <T:>(TT;TT;TT;TT;)V", "2 " + longest,
                "1 <T:>(TT;TT;IIII)TT;", "1 <T:>(TT;TT;IIIII)TT;");
        CHECK.refused("fill to 155", other.fill(0, 0, 1));
        CHECK.same("fill to 120 at the end", other.fill(2, 0, 1), 4);
        CHECK.refused("fill to 121 at the end", other.fill(3, 0, 1));
    }

    /** Its first 120 characters are a signature by themselves. */
    private static void refusesLongOnesThatCouldBeCut() {
        SignatureForest forest = Check.forest("0 <T:>La<TT;>;La<TT;>;La<TT;>;LB;", "2 L" + "a".repeat(33) + ";");
        CHECK.refused("fill to 123", forest.fill(0, 0, 1));
        CHECK.same("count(0) behind it", forest.count(0), 2);
    }

    private static void refusesTheTwentyFifth() {
        SignatureForest forest = Check.forest("1 <A:>(TA;)V", "2 LX;");
        for (int i = 2; i < 24; i++) {
            CHECK.same("fill no. " + i, forest.fill(0, 0, 1), i);
        }
        CHECK.refused("fill no. 24", forest.fill(0, 0, 1));
        CHECK.same("count(0)", forest.count(0), 24);
    }
}
