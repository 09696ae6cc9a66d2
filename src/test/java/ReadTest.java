/** Promises 4 and 6: read and kind. */
public final class ReadTest {
    private static final Check CHECK = new Check("ReadTest");

    public static void main(String[] args) {
        rightOnes();
        faultsOfFields();
        faultsOfClasses();
        faultsOfMethods();
        faultsOfParameters();
        otherKindsAreRefused();
        theLineStaysBehindAFault();
        aFaultLeavesNothingBehind();
        twentyFourAreTheMost();
        kindAnswers();
        CHECK.end();
    }

    private static void rightOnes() {
        String[] fields = {"LA;", "TT;", "[I", "[[LA;", "[TT;", "La/b/C;", "La/b/C.D.E;",
            "La<*>;", "La<*>.b<TT;>.c;", "La/b<**+LA;-[I[JTX;Lc<*>;>;", "LT;", "TL;", "L(;", "L^)V;",
            "T*;", "L+-;", "L];", "L,;", "TB;", "La<+TT;>;", "La<-La<+La<-La<+La<*>;>;>;>;>;",
            "[B", "[C", "[D", "[F", "[J", "[S", "[Z"};
        for (String text : fields) {
            CHECK.right(2, text);
        }
        String[] classes = {"LA;", "LA;LB;LC;", "<A:>LA;", "<A::LB;>LA;", "<A:LB;:LC;:TD;>LA;LB;",
            "<A:B:C:>La;", "<A:[I>La;", "<A:[IB:>La;", "<A:TA;TB:TTB;>La;", "<A::[[TA;B:>La;",
            "<(:)::LX;>La;", "<A:LA;L:>LA;"};
        for (String text : classes) {
            CHECK.right(0, text);
        }
        String[] methods = {"()V", "()I", "(BCDFIJSZ)Z", "(LA;TT;[I[[TT;)TT;", "()V^LA;^TT;",
            "<T:>(TT;)TT;^TT;", "<T::LI;>()[[I", "()LA<*>;^La.b<*>;", "<(:>()V"};
        for (String text : methods) {
            CHECK.right(1, text);
        }
    }

    private static void faultsOfFields() {
        String[] marked = {"!", "!I", "!V", "!<A:>LA;", "!(", "L!;", "L!/a;", "La!", "La/!;", "La/!/b;",
            "La.!;", "La.b!/c;", "La.b!", "La<!>;", "La<!I>;", "La<*!", "La<*!I>;", "La<+!*>;", "La<+!>;",
            "La<-!+LA;>;", "La<*>!/b;", "La<*>!b;", "La<*>!<*>;", "La<*>.b!/c;", "LA;!X", "LA;!LA;",
            "TT!", "T!;", "TT!/a;", "TT!<*>;", "TT!.a;", "[!", "[!V", "[!;", "[I!I", "[[!*", "La!:b;",
            "La![;", "Ta![;", "La!>;", "La<La;!;>;", "La<La<*>!>;", "L!<*>;", "L!.a;", "La<!:>;"};
        for (String text : marked) {
            CHECK.fault(2, text);
        }
    }

    private static void faultsOfClasses() {
        String[] marked = {"!", "!TT;", "![I", "!I", "!()V", "LA;!TT;", "LA;!I", "LA;!^LB;", "LA;!<A:>",
            "LA;L!", "<A:>!", "<A:>!TT;", "<A:>!<B:>LA;", "<A:>![LA;", "<A:>!()V", "LA!"};
        for (String text : marked) {
            CHECK.fault(0, text);
        }
    }

    private static void faultsOfMethods() {
        String[] marked = {"!", "!LA;", "!V", "(!V)V", "(!", "()!", "()!^LA;", "()!)V", "()V!V", "()I!I",
            "()V^!", "()V^![I", "()V^!I", "()V^!V", "()V^LA;!LB;", "()V^LA;^!", "(I!", "(I!V)V", "([!V)V",
            "()[!V", "(!*)V", "(!^)V", "<A:>!LA;", "<A:>!", "<A:>!V", "(I!;)V", "(LA;!;)V", "()TT;!TT;",
            "(!()V)V", "(!<A:>)V"};
        for (String text : marked) {
            CHECK.fault(1, text);
        }
    }

    private static void faultsOfParameters() {
        String[] marked = {"<!>", "<!:>", "<A!>", "<A!", "<A!;", "<A!/", "<A![", "<A:!", "<A:!;", "<A:!<", "<A:!/",
            "<A:!.", "<A::!>", "<A::!:", "<A::!B:>", "<A::!I", "<A:[!X:>", "<A:[B:!>", "<A:LB!:>", "<A:TB!:>", "<A:T!:>",
            "<A:L!>", "<A:A!:>", "<A:B:A!:>", "<A:AA:A!:>", "<A:LB;A!:>", "<A:[IA!:>", "<AB:ABC:A:AB!:",
            "<A:LB;:!>", "<A:LB;!;", "<A:A!", "<A:AA!", "<A:A!>", "<A:B:B!:>", "<T:LA;T!:>", "<A:TB;![", "<A:LB;!",
            "<A:[I!"};
        for (String text : marked) {
            CHECK.fault(0, text);
            CHECK.fault(1, text);
        }
    }

    private static void otherKindsAreRefused() {
        SignatureForest forest = new SignatureForest();
        Check.type(forest, "LA;");
        int[] kinds = {-1, 3, Integer.MIN_VALUE, Integer.MAX_VALUE};
        for (int kind : kinds) {
            CHECK.refused("read(" + kind + ")", forest.read(kind));
        }
        CHECK.same("count(1) behind refusals", forest.count(1), 3);
        CHECK.same("read(2) behind refusals", forest.read(2), 0);
    }

    private static void theLineStaysBehindAFault() {
        SignatureForest forest = new SignatureForest();
        Check.type(forest, "La");
        CHECK.same("read of La", forest.read(2), -3);
        CHECK.same("type behind a fault", forest.type(';'), 3);
        CHECK.same("read of La;", forest.read(2), 0);
        CHECK.same("read of the empty line", forest.read(2), -1);
    }

    private static void aFaultLeavesNothingBehind() {
        SignatureForest forest = new SignatureForest();
        String[] wrong = {"<A:LB;", "La<Lb<*>;", "()VV", "(I", "<A:B"};
        for (int i = 0; i < wrong.length; i++) {
            String text = wrong[i];
            CHECK.same("a fault in " + text, Check.read(forest, i < 2 ? 0 : 1, text) < 0 ? 1 : 0, 1);
            CHECK.same("LA;LB; behind " + text, Check.read(forest, 0, "LA;LB;"), i);
            CHECK.same("parameters behind " + text, forest.parameters(i), 0);
        }
    }

    private static void twentyFourAreTheMost() {
        SignatureForest forest = new SignatureForest();
        for (int i = 0; i < 24; i++) {
            CHECK.same("read no. " + i, Check.read(forest, i % 2 * 2, "LA;"), i);
        }
        Check.type(forest, "LA;");
        CHECK.refused("read no. 24", forest.read(2));
        CHECK.same("a fault when 24 are there", forest.read(1), -1);
        CHECK.refused("another kind when 24 are there", forest.read(3));
        CHECK.same("count(1) behind these", forest.count(1), 3);
        CHECK.same("count(0) behind these", forest.count(0), 24);
        CHECK.same("kind(23)", forest.kind(23), 2);
        CHECK.refused("kind(24)", forest.kind(24));
    }

    private static void kindAnswers() {
        SignatureForest forest = Check.forest("2 LA;", "0 LA;", "1 ()V");
        CHECK.same("kind(0)", forest.kind(0), 2);
        CHECK.same("kind(1)", forest.kind(1), 0);
        CHECK.same("kind(2)", forest.kind(2), 1);
        CHECK.refused("kind(3)", forest.kind(3));
        CHECK.refused("kind(-1)", forest.kind(-1));
        CHECK.refused("kind(MIN)", forest.kind(Integer.MIN_VALUE));
    }
}
