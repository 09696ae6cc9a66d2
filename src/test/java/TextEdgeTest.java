/** The edges of the texts WRITTEN, SHOWN and ERASED and of promises 7 and 8: one sentence a test. */
public final class TextEdgeTest {
    private static final Check CHECK = new Check("TextEdgeTest");
    private static final String OBJECT = "Ljava/lang/Object;";

    public static void main(String[] args) {
        written();
        shownBases();
        shownVariables();
        shownArrays();
        shownClasses();
        shownArguments();
        shownParameters();
        shownClassSignatures();
        shownMethodSignatures();
        noBlanks();
        erasedBases();
        erasedArrays();
        erasedClasses();
        erasedVariables();
        erasedFreeVariables();
        erasedWithoutBounds();
        erasedAlready();
        erasedInTheScope();
        erasedSignatures();
        textByIndex();
        textOfNothing();
        lengths();
        lengthsRefused();
        theLongestTexts();
        theLongestType();
        CHECK.end();
    }

    private static void shown(int kind, String written, String want) {
        CHECK.hasText(Check.forest(kind + " " + written), 0, Check.SHOWN, want);
    }

    private static void erased(int kind, String written, String want) {
        CHECK.hasText(Check.forest(kind + " " + written), 0, Check.ERASED, want);
    }

    private static void written() {
        CHECK.sentence("WRITTEN (what could stand in the line for it): as it is read");
        String[] texts = {"2 TA;", "0 <A:B::LX;:LY;>La/b<*>.c;Ld;", "1 <A:>(I[TA;)V^TA;^Lb;",
            "2 " + "[".repeat(39) + "J"};
        SignatureForest forest = Check.forest(texts);
        for (int s = 0; s < texts.length; s++) {
            CHECK.hasText(forest, s, Check.WRITTEN, texts[s].substring(2));
        }
    }

    private static void shownBases() {
        CHECK.sentence("a BASE as byte char double float int long short boolean, V as void");
        String[] words = {"Bbyte", "Cchar", "Ddouble", "Ffloat", "Iint", "Jlong", "Sshort", "Zboolean"};
        for (String word : words) {
            shown(2, "[" + word.charAt(0), word.substring(1) + "[]");
            shown(1, "(" + word.charAt(0) + ")V", "(" + word.substring(1) + ")void");
            shown(1, "()" + word.charAt(0), "()" + word.substring(1));
            shown(2, "L" + word.charAt(0) + ";", "" + word.charAt(0));
        }
        shown(1, "(LV;)V", "(V)void");
    }

    private static void shownVariables() {
        CHECK.sentence("a VARIABLE as its name");
        shown(2, "TT;", "T");
        shown(2, "TTT;", "TT");
        shown(2, "TL;", "L");
        shown(2, "T];", "]");
        shown(2, "T" + "n".repeat(38) + ";", "n".repeat(38));
    }

    private static void shownArrays() {
        CHECK.sentence("an ARRAY as its TYPE and []");
        shown(2, "[I", "int[]");
        shown(2, "[[TA;", "A[][]");
        shown(2, "[La<[I>.b<[[J>;", "a<int[]>.b<long[][]>[]");
        shown(2, "[La<[Lb<[Lc;>;>;", "a<b<c[]>[]>[]");
        shown(2, "La<[I[[JTA;>;", "a<int[],long[][],A>");
        shown(1, "([II)[[I", "(int[],int)int[][]");
        shown(2, "[".repeat(39) + "I", "int" + "[]".repeat(39));
    }

    private static void shownClasses() {
        CHECK.sentence("a CLASS with . for every / and between segments");
        shown(2, "La;", "a");
        shown(2, "La/b;", "a.b");
        shown(2, "La/b/c;", "a.b.c");
        shown(2, "La.b;", "a.b");
        shown(2, "La/b.c.d;", "a.b.c.d");
        shown(2, "La/b<*>.c<*>.d;", "a.b<?>.c<?>.d");
        shown(2, "La$b;", "a$b");
    }

    private static void shownArguments() {
        CHECK.sentence("its arguments between the signs less and greater, parted by , ; "
                + "an argument * as ?, + as ?+ and - as ?- before its REFERENCE");
        shown(2, "La<*>;", "a<?>");
        shown(2, "La<**>;", "a<?,?>");
        shown(2, "La<+Lb;>;", "a<?+b>");
        shown(2, "La<-Tb;*>;", "a<?-b,?>");
        shown(2, "La<*+[Lb;-[[I>;", "a<?,?+b[],?-int[][]>");
        shown(2, "La<Lb<Lc;*>;+Lb<-Tc;>;>;", "a<b<c,?>,?+b<?-c>>");
        shown(2, "L*<*>;", "*<?>");
        shown(2, "L+-<+T-;-T+;>;", "+-<?+-,?-+>");
    }

    private static void shownParameters() {
        CHECK.sentence("parted by , : the name, and if it has bounds a : and these, parted by &");
        shown(0, "<A:>LX;", "<A>X");
        shown(0, "<A:B:>LX;", "<A,B>X");
        shown(0, "<A:LB;>LX;", "<A:B>X");
        shown(0, "<A::LB;>LX;", "<A:B>X");
        shown(0, "<A:LB;:LC;>LX;", "<A:B&C>X");
        shown(0, "<A::LB;:LC;>LX;", "<A:B&C>X");
        shown(0, "<A::LB;:TC;:[IB:C::[TA;>LX;", "<A:B&C&int[],B,C:A[]>X");
        shown(0, "<A:La<LB;LC;>;>LX;", "<A:a<B,C>>X");
        shown(1, "<A:B:>()V", "<A,B>()void");
    }

    private static void shownClassSignatures() {
        CHECK.sentence("A class: parameters, its first CLASS, and, if there are more, a : and these, parted by ,");
        shown(0, "LA;", "A");
        shown(0, "LA;LB;", "A:B");
        shown(0, "LA;LB;LC;", "A:B,C");
        shown(0, "<T:LA;U:>LA;LB;LC;LD;", "<T:A,U>A:B,C,D");
        shown(0, "La<Lb;Lc;>;", "a<b,c>");
        shown(0, "La<Lb;Lc;>;Ld<Le;Lf;>;Lg;", "a<b,c>:d<e,f>,g");
    }

    private static void shownMethodSignatures() {
        CHECK.sentence("A method: parameters, ( , its TYPEs parted by , , ) , the RESULT, and, "
                + "if something is thrown, a ^ and that, parted by ,");
        shown(1, "()V", "()void");
        shown(1, "(I)V", "(int)void");
        shown(1, "(ILA;TB;[J)[LC;", "(int,A,B,long[])C[]");
        shown(1, "()V^LA;", "()void^A");
        shown(1, "()I^LA;^TB;^LC<*>;", "()int^A,B,C<?>");
        shown(1, "<A:LX;>(TA;)TA;^TA;", "<A:X>(A)A^A");
        shown(1, "(La<*>;I)V", "(a<?>,int)void");
    }

    private static void noBlanks() {
        CHECK.sentence("No blanks");
        SignatureForest forest = Check.forest("0 <A:B::LX;:TA;>La/b<*+TA;>;Lc;Ld;",
                "1 <A:B:>(I[JTA;)V^TA;^Lb;", "2 [La<-TA;>;");
        for (int s = 0; s < 3; s++) {
            for (int i = 0; i < forest.length(s, Check.SHOWN); i++) {
                CHECK.same("a blank at " + i + " of " + s, forest.text(s, Check.SHOWN, i) > 32 ? 1 : 0, 1);
            }
        }
    }

    private static void erasedBases() {
        CHECK.sentence("a BASE as it is");
        erased(1, "(BCDFIJSZ)I", "(BCDFIJSZ)I");
        erased(1, "()Z", "()Z");
    }

    private static void erasedArrays() {
        CHECK.sentence("an ARRAY as an opening square bracket and its TYPE erased");
        erased(2, "[I", "[I");
        erased(2, "[[La.b<*>;", "[[La$b;");
        erased(2, "[TA;", "[" + OBJECT);
        erased(1, "<A:[I>([TA;)[[TA;", "([[I)[[[I");
        erased(2, "[".repeat(39) + "I", "[".repeat(39) + "I");
    }

    private static void erasedClasses() {
        CHECK.sentence("a CLASS as L, all its names with / behind those before the first SEGMENT "
                + "and $ between segments, and ; without arguments");
        erased(2, "La;", "La;");
        erased(2, "La/b/c;", "La/b/c;");
        erased(2, "La.b;", "La$b;");
        erased(2, "La/b.c.d;", "La/b$c$d;");
        erased(2, "La/b<Lc/d.e<*>;>.f<TA;[Lg/h;>.i;", "La/b$f$i;");
        erased(2, "La$b.c;", "La$b$c;");
    }

    private static void erasedVariables() {
        CHECK.sentence("a VARIABLE as its parameter's first bound erased");
        erased(1, "<A:LX;:LY;>(TA;)V", "(LX;)V");
        erased(1, "<A::LX;:LY;>(TA;)V", "(LX;)V");
        erased(1, "<A:[[I:LY;>(TA;)V", "([[I)V");
        erased(1, "<A:TB;:LZ;B:Lx.y<TA;>;>(TA;)TB;", "(Lx$y;)Lx$y;");
        erased(1, "<A:TB;B:TC;C:TD;D:[J>(TA;TB;TC;TD;)V", "([J[J[J[J)V");
    }

    private static void erasedFreeVariables() {
        CHECK.sentence("as Ljava/lang/Object; if it is FREE");
        erased(2, "TA;", OBJECT);
        erased(2, "[[TA;", "[[" + OBJECT);
        erased(1, "<A:TB;>(TA;TB;)TAA;", "(" + OBJECT + OBJECT + ")" + OBJECT);
    }

    private static void erasedWithoutBounds() {
        CHECK.sentence("its parameter has no bounds");
        erased(1, "<A:>(TA;)TA;", "(" + OBJECT + ")" + OBJECT);
        erased(1, "<A:B:LX;>(TA;)TB;", "(" + OBJECT + ")LX;");
        erased(1, "<A:[TB;B:>(TA;)V", "([" + OBJECT + ")V");
        SignatureForest forest = Check.forest("0 <A:>LC;", "2 [TA;");
        forest.scope(1, 0);
        CHECK.hasText(forest, 1, Check.ERASED, "[" + OBJECT);
    }

    private static void erasedAlready() {
        CHECK.sentence("or that parameter's first bound is being erased already (so in <T:[TT;> the inner T)");
        erased(1, "<T:[TT;>(TT;)V", "([" + OBJECT + ")V");
        erased(1, "<T:[TT;>([TT;TT;)TT;", "([[" + OBJECT + "[" + OBJECT + ")[" + OBJECT);
        erased(1, "<T:TT;>(TT;)V", "(" + OBJECT + ")V");
        erased(1, "<A:[TB;B:[[TA;>(TA;TB;)V", "([[[" + OBJECT + "[[[" + OBJECT + ")V");
        erased(1, "<A:[TB;B:[TB;>(TA;TB;)V", "([[" + OBJECT + "[" + OBJECT + ")V");
        erased(1, "<A:LX<TA;>;>(TA;)V", "(LX;)V");
        erased(1, "<A:LX;:TA;>(TA;TA;)V", "(LX;LX;)V");
    }

    /** The method's own B is never what a bound of the scope speaks of, nor is the scope's scope. */
    private static void erasedInTheScope() {
        CHECK.sentence("(A bound of a parameter of the scope is looked at as part of the scope's signature, "
                + "as if that had no scope.)");
        SignatureForest forest = Check.forest("0 <A:[TB;B:LX;>LC;", "1 <B:LY;>(TA;TB;)V", "0 <A:[TB;>LC;",
                "0 <B:LZ;>LC;", "1 <B:[TA;>(TB;)V", "0 <A:[TB;B:[TA;>LC;");
        forest.scope(1, 0);
        CHECK.hasText(forest, 1, Check.ERASED, "([LX;LY;)V");
        forest.scope(1, 2);
        CHECK.hasText(forest, 1, Check.ERASED, "([" + OBJECT + "LY;)V");
        forest.scope(2, 3);
        CHECK.hasText(forest, 1, Check.ERASED, "([" + OBJECT + "LY;)V");
        forest.scope(4, 5);
        CHECK.hasText(forest, 4, Check.ERASED, "([[[" + OBJECT + ")V");
    }

    private static void erasedSignatures() {
        CHECK.sentence("A field: its REFERENCE erased; a method: ( , its TYPEs erased, ) , "
                + "and its RESULT erased (V as V); a class: all its CLASSes erased, one after another");
        erased(2, "La<*>;", "La;");
        erased(1, "()V", "()V");
        erased(1, "<A:LX;>(I)V^TA;^LY;", "(I)V");
        erased(1, "<A:LX;>()TA;^TA;", "()LX;");
        erased(0, "LA;", "LA;");
        erased(0, "<A:LX;>LA<TA;>;LB.c;LD;", "LA;LB$c;LD;");
    }

    private static void textByIndex() {
        CHECK.sentence("The character at the index (from 0) of a text of the signature: "
                + "WRITTEN (what 0), SHOWN (1) or ERASED (2)");
        SignatureForest forest = Check.forest("2 [TA;");
        CHECK.same("text(0, 0, 0)", forest.text(0, 0, 0), '[');
        CHECK.same("text(0, 0, 3)", forest.text(0, 0, 3), ';');
        CHECK.same("text(0, 1, 0)", forest.text(0, 1, 0), 'A');
        CHECK.same("text(0, 1, 2)", forest.text(0, 1, 2), ']');
        CHECK.same("text(0, 2, 0)", forest.text(0, 2, 0), '[');
        CHECK.same("text(0, 2, 1)", forest.text(0, 2, 1), 'L');
        CHECK.same("text(0, 2, 18)", forest.text(0, 2, 18), ';');
    }

    private static void textOfNothing() {
        CHECK.sentence("-1 if there is no such signature, what or character");
        SignatureForest forest = Check.forest("2 [TA;");
        int[] lengths = {4, 3, 19};
        int[] wild = {-1, Integer.MIN_VALUE, Integer.MAX_VALUE, 24, -100};
        for (int what = 0; what < 3; what++) {
            CHECK.same("behind the last of " + what, forest.text(0, what, lengths[what]), -1);
            for (int none : wild) {
                CHECK.same("text(0, " + what + ", " + none + ")", forest.text(0, what, none), -1);
                CHECK.same("text(" + none + ", " + what + ", 0)", forest.text(none, what, 0), -1);
            }
            CHECK.same("text(1, " + what + ", 0)", forest.text(1, what, 0), -1);
        }
        for (int none : new int[] {-1, 3, Integer.MIN_VALUE, Integer.MAX_VALUE}) {
            CHECK.same("text(0, " + none + ", 0)", forest.text(0, none, 0), -1);
            CHECK.same("text(1, " + none + ", -1)", forest.text(1, none, -1), -1);
        }
        CHECK.same("text of a new one", new SignatureForest().text(0, 0, 0), -1);
    }

    private static void lengths() {
        CHECK.sentence("How many characters that text has");
        SignatureForest forest = Check.forest("2 [TA;", "1 ()V", "0 LA;");
        CHECK.same("length(0, 0)", forest.length(0, 0), 4);
        CHECK.same("length(0, 1)", forest.length(0, 1), 3);
        CHECK.same("length(0, 2)", forest.length(0, 2), 19);
        CHECK.same("length(1, 1)", forest.length(1, 1), 6);
        CHECK.same("length(2, 1)", forest.length(2, 1), 1);
    }

    private static void lengthsRefused() {
        CHECK.sentence("REFUSED for no such signature or what");
        SignatureForest forest = Check.forest("2 LA;");
        for (int none : new int[] {-1, 1, 24, Integer.MIN_VALUE, Integer.MAX_VALUE}) {
            for (int what = -1; what <= 3; what++) {
                CHECK.refused("length(" + none + ", " + what + ")", forest.length(none, what));
            }
        }
        for (int none : new int[] {-1, 3, Integer.MIN_VALUE, Integer.MAX_VALUE}) {
            CHECK.refused("length(0, " + none + ")", forest.length(0, none));
        }
    }

    /** A bound that grew by fills, and that twelve VARIABLEs are erased to; a line of booleans. */
    private static void theLongestTexts() {
        CHECK.sentence("How many characters that text has: far more than WRITTEN has");
        SignatureForest forest = Check.forest("0 <A:" + "[".repeat(22) + "TB;B:C:>LX;", "2 " + "[".repeat(35) + "TC;",
                "2 " + "[".repeat(39) + "I", "1 (" + "TA;".repeat(12) + ")V", "1 (" + "Z".repeat(37) + ")V");
        CHECK.same("the first fill", forest.fill(0, 1, 1), 5);
        CHECK.same("the second fill", forest.fill(5, 1, 2), 6);
        CHECK.hasText(forest, 6, Check.WRITTEN, "<A:" + "[".repeat(96) + "I>LX;");
        CHECK.hasText(forest, 6, Check.SHOWN, "<A:int" + "[]".repeat(96) + ">X");
        forest.scope(3, 6);
        CHECK.hasText(forest, 3, Check.ERASED, "(" + ("[".repeat(96) + "I").repeat(12) + ")V");
        CHECK.hasText(forest, 4, Check.SHOWN, "(" + "boolean,".repeat(36) + "boolean)void");
    }

    /** A bound of 108 brackets that goes on in the scope with 110 more. */
    private static void theLongestType() {
        CHECK.sentence("an ARRAY as an opening square bracket and its TYPE erased, "
                + "in 120 characters and a scope of 120");
        SignatureForest forest = Check.forest("0 <A:" + "[".repeat(24) + "TB;B:C:D:>La;",
                "1 <B:" + "[".repeat(22) + "TC;C:D:E:>()TB;", "2 " + "[".repeat(37) + "TC;",
                "2 " + "[".repeat(37) + "TD;", "2 " + "[".repeat(37) + "TE;", "2 " + "[".repeat(12) + "TA;");
        CHECK.same("the scope without B", forest.fill(0, 1, 2), 6);
        CHECK.same("the scope without C", forest.fill(6, 1, 3), 7);
        CHECK.same("the scope without D", forest.fill(7, 1, 5), 8);
        CHECK.hasText(forest, 8, Check.WRITTEN, "<A:" + "[".repeat(110) + "TA;>La;");
        CHECK.same("the method without C", forest.fill(1, 1, 3), 9);
        CHECK.same("the method without D", forest.fill(9, 1, 4), 10);
        CHECK.same("the method without E", forest.fill(10, 1, 5), 11);
        CHECK.hasText(forest, 11, Check.WRITTEN, "<B:" + "[".repeat(108) + "TA;>()TB;");
        forest.scope(11, 8);
        CHECK.hasText(forest, 11, Check.ERASED, "()" + "[".repeat(218) + OBJECT);
    }
}
