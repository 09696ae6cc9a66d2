/** Promises 7 and 8: text and length, of WRITTEN, SHOWN and ERASED. */
public final class TextTest {
    private static final Check CHECK = new Check("TextTest");
    private static final String OBJECT = "Ljava/lang/Object;";

    public static void main(String[] args) {
        shownFields();
        shownClasses();
        shownMethods();
        erasedOnes();
        erasedBounds();
        erasedInScope();
        textOfNothing();
        lengthOfNothing();
        longErased();
        CHECK.end();
    }

    private static void shown(int kind, String written, String want) {
        CHECK.hasText(Check.forest(kind + " " + written), 0, Check.SHOWN, want);
    }

    private static void erased(int kind, String written, String want) {
        SignatureForest forest = Check.forest(kind + " " + written);
        CHECK.hasText(forest, 0, Check.ERASED, want);
        CHECK.hasText(forest, 0, Check.WRITTEN, written);
    }

    private static void shownFields() {
        shown(2, "LA;", "A");
        shown(2, "TTx;", "Tx");
        shown(2, "La/b/C.D.E;", "a.b.C.D.E");
        shown(2, "La/b/C<*>.D<TT;LA;>.E;", "a.b.C<?>.D<T,A>.E");
        shown(2, "La<+LA;-TT;*+[I>;", "a<?+A,?-T,?,?+int[]>");
        shown(2, "[[I", "int[][]");
        shown(2, "[La<[[TT;[[[Lb<[I>;>;", "a<T[][],b<int[]>[][][]>[]");
        shown(2, "La<La<La<*>;*>;*>;", "a<a<a<?>,?>,?>");
        shown(2, "La$b;", "a$b");
        shown(2, "[B", "byte[]");
        shown(2, "La<**>;", "a<?,?>");
        shown(2, "La<[I[J>;", "a<int[],long[]>");
    }

    private static void shownClasses() {
        shown(0, "LA;", "A");
        shown(0, "LA;LB;", "A:B");
        shown(0, "LA;LB;LC;LD;", "A:B,C,D");
        shown(0, "<A:>LB;", "<A>B");
        shown(0, "<A:B:C:>LB;", "<A,B,C>B");
        shown(0, "<A:LX;>LB;", "<A:X>B");
        shown(0, "<A::LX;>LB;", "<A:X>B");
        shown(0, "<A:LX;:LY;:TZ;>LB;", "<A:X&Y&Z>B");
        shown(0, "<A::LX;:LY;B:C:[I>LB;LC;LD;", "<A:X&Y,B,C:int[]>B:C,D");
        shown(0, "<A:[ILB:[TA;D:>LB;", "<A:int[],LB:A[],D>B");
        shown(0, "La<LA;LB;>;Lb<LC;LD;>;Lc;", "a<A,B>:b<C,D>,c");
        shown(0, "<A:La<LB;LC;>;>LA;LD;", "<A:a<B,C>>A:D");
    }

    private static void shownMethods() {
        shown(1, "()V", "()void");
        shown(1, "(BCDFIJSZ)V", "(byte,char,double,float,int,long,short,boolean)void");
        shown(1, "([Z[[JLA;TT;)[D", "(boolean[],long[][],A,T)double[]");
        shown(1, "()TT;^TT;", "()T^T");
        shown(1, "()V^LA;^TT;^Lb/C;", "()void^A,T,b.C");
        shown(1, "<T:U::LA;>(TT;I)TU;^TT;", "<T,U:A>(T,int)U^T");
        shown(1, "(La<TT;*>;I)V", "(a<T,?>,int)void");
        shown(1, "<(:>(T(;)V", "<(>(()void");
    }

    private static void erasedOnes() {
        erased(2, "LA;", "LA;");
        erased(2, "[[I", "[[I");
        erased(2, "TT;", OBJECT);
        erased(2, "[TT;", "[" + OBJECT);
        erased(2, "La/b/C.D.E;", "La/b/C$D$E;");
        erased(2, "La/C<Lb/D;>.E<*>.F;", "La/C$E$F;");
        erased(2, "La<Lb.c<Ld.e;>;>;", "La;");
        erased(0, "<A:LX;>La/A<TA;>;Lb.c;LC;", "La/A;Lb$c;LC;");
        erased(0, "LA;", "LA;");
        erased(1, "()V", "()V");
        erased(1, "(BCDFIJSZ)Z", "(BCDFIJSZ)Z");
        erased(1, "([ILA<*>;)[La.b;^LX;", "([ILA;)[La$b;");
        erased(1, "(I)V^TT;^LX;", "(I)V");
        erased(1, "(T(;T);)V", "(" + OBJECT + OBJECT + ")V");
    }

    private static void erasedBounds() {
        erased(1, "<T:LA;:LB;>(TT;)TT;", "(LA;)LA;");
        erased(1, "<T::LB;:LC;>(TT;)[TT;", "(LB;)[LB;");
        erased(1, "<T:>(TT;)V", "(" + OBJECT + ")V");
        erased(1, "<T:[TT;>(TT;[TT;)V", "([" + OBJECT + "[[" + OBJECT + ")V");
        erased(1, "<T:TT;>(TT;)V", "(" + OBJECT + ")V");
        erased(1, "<A:TB;B:[TC;C:[[I>(TA;TB;TC;)V", "([[[I[[[I[[I)V");
        erased(1, "<A:[TB;B:[TA;>(TA;TB;)V", "([[" + OBJECT + "[[" + OBJECT + ")V");
        erased(1, "<A:[TB;B:[TB;>(TA;)V", "([[" + OBJECT + ")V");
        erased(1, "<A:La/b<TA;>.c;>([TA;)V", "([La/b$c;)V");
        erased(1, "<A:B:LX;AB:LY;>(TA;TAB;TB;)V", "(" + OBJECT + "LY;LX;)V");
        erased(1, "<A:[ZB:TA;>(TB;TB;)V", "([Z[Z)V");
        erased(1, "<A:TX;>(TA;)V", "(" + OBJECT + ")V");
    }

    private static void erasedInScope() {
        SignatureForest forest = Check.forest("0 <A:[TB;B:LX;>LO;", "1 <B:[TA;>(TA;TB;)TC;",
                "0 <A:TC;C:[TA;>LO;", "2 TA;", "1 <C:LZ;>(TA;TC;)V", "0 <C:LY;>LO;");
        forest.scope(1, 0);
        CHECK.hasText(forest, 1, Check.ERASED, "([LX;[[LX;)" + OBJECT);
        forest.scope(3, 2);
        CHECK.hasText(forest, 3, Check.ERASED, "[" + OBJECT);
        forest.scope(4, 2);
        CHECK.hasText(forest, 4, Check.ERASED, "([" + OBJECT + "LZ;)V");
        forest = Check.forest("0 <A:TC;>LO;", "2 TA;", "0 <C:LY;>LO;", "1 <A:[TB;>(TA;)V", "0 <B:[TA;A:[TB;>LO;");
        forest.scope(0, 2);
        forest.scope(1, 0);
        CHECK.hasText(forest, 1, Check.ERASED, OBJECT);
        forest.scope(3, 4);
        CHECK.hasText(forest, 3, Check.ERASED, "([[[" + OBJECT + ")V");
    }

    private static void textOfNothing() {
        SignatureForest forest = Check.forest("2 [I");
        int[] whats = {-1, 3, Integer.MIN_VALUE, Integer.MAX_VALUE};
        for (int what : whats) {
            CHECK.same("text(0, " + what + ", 0)", forest.text(0, what, 0), -1);
        }
        for (int what = 0; what < 3; what++) {
            int size = forest.length(0, what);
            CHECK.same("text(0, " + what + ", last)", forest.text(0, what, size - 1), what == 1 ? ']' : 'I');
            CHECK.same("text(0, " + what + ", size)", forest.text(0, what, size), -1);
            CHECK.same("text(0, " + what + ", -1)", forest.text(0, what, -1), -1);
            CHECK.same("text(0, " + what + ", MIN)", forest.text(0, what, Integer.MIN_VALUE), -1);
            CHECK.same("text(0, " + what + ", MAX)", forest.text(0, what, Integer.MAX_VALUE), -1);
            CHECK.same("text(1, " + what + ", 0)", forest.text(1, what, 0), -1);
            CHECK.same("text(-1, " + what + ", 0)", forest.text(-1, what, 0), -1);
        }
    }

    private static void lengthOfNothing() {
        SignatureForest forest = Check.forest("2 [I");
        CHECK.refused("length(0, 3)", forest.length(0, 3));
        CHECK.refused("length(0, -1)", forest.length(0, -1));
        CHECK.refused("length(1, 0)", forest.length(1, 0));
        CHECK.refused("length(-1, 2)", forest.length(-1, 2));
    }

    /** Ten times a VARIABLE whose bound in the scope is long. */
    private static void longErased() {
        SignatureForest forest = Check.forest("0 <A:[[[[[[[[[[[[[[[[[[[[[[[[[[[TX;>LO;", "1 (TA;TA;TA;TA;TA;TA;TA;TA;TA;TA;)V");
        forest.scope(1, 0);
        String one = "[".repeat(27) + OBJECT;
        CHECK.hasText(forest, 1, Check.ERASED, "(" + one.repeat(10) + ")V");
    }
}
