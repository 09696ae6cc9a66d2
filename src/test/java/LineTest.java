/** Promises 1, 2, 3 and 15: a new object, type, clear and count. */
public final class LineTest {
    private static final Check CHECK = new Check("LineTest");

    public static void main(String[] args) {
        newObject();
        typeAnswersTheLength();
        typeRefusesOtherCodes();
        typeRefusesTheFortyFirst();
        clearEmptiesTheLine();
        countTellsBoth();
        objectsAreApart();
        CHECK.end();
    }

    private static void newObject() {
        SignatureForest forest = new SignatureForest();
        CHECK.same("count(0) of a new one", forest.count(0), 0);
        CHECK.same("count(1) of a new one", forest.count(1), 0);
        CHECK.refused("kind(0) of a new one", forest.kind(0));
        CHECK.same("REFUSED", SignatureForest.REFUSED, -100);
    }

    private static void typeAnswersTheLength() {
        SignatureForest forest = new SignatureForest();
        CHECK.same("type(33)", forest.type(33), 1);
        CHECK.same("type(126)", forest.type(126), 2);
        CHECK.same("type('L')", forest.type('L'), 3);
    }

    private static void typeRefusesOtherCodes() {
        SignatureForest forest = new SignatureForest();
        int[] codes = {32, 127, 0, -1, 128, 65536 + 'L', Integer.MIN_VALUE, Integer.MAX_VALUE};
        for (int code : codes) {
            CHECK.refused("type(" + code + ")", forest.type(code));
        }
        CHECK.same("count(1) behind refusals", forest.count(1), 0);
    }

    private static void typeRefusesTheFortyFirst() {
        SignatureForest forest = new SignatureForest();
        for (int i = 1; i <= 40; i++) {
            CHECK.same("type no. " + i, forest.type(i == 1 ? 'L' : i == 40 ? ';' : 'a'), i);
        }
        CHECK.refused("type no. 41", forest.type('a'));
        CHECK.same("count(1) of a full line", forest.count(1), 40);
        CHECK.same("read of a full line", forest.read(2), 0);
        CHECK.same("type behind read", forest.type('a'), 1);
    }

    private static void clearEmptiesTheLine() {
        SignatureForest forest = Check.forest("2 LA;");
        Check.type(forest, "junk");
        forest.clear();
        CHECK.same("count(1) behind clear", forest.count(1), 0);
        CHECK.same("count(0) behind clear", forest.count(0), 1);
        forest.clear();
        CHECK.same("type behind clear", forest.type('T'), 1);
        CHECK.same("read behind clear", forest.read(2), -2);
    }

    private static void countTellsBoth() {
        SignatureForest forest = Check.forest("2 LA;", "0 LB;");
        Check.type(forest, "abc");
        CHECK.same("count(0)", forest.count(0), 2);
        CHECK.same("count(1)", forest.count(1), 3);
        CHECK.refused("count(2)", forest.count(2));
        CHECK.refused("count(-1)", forest.count(-1));
    }

    private static void objectsAreApart() {
        SignatureForest one = Check.forest("2 LA;");
        SignatureForest other = new SignatureForest();
        Check.type(other, "xy");
        CHECK.same("count(1) of the first", one.count(1), 0);
        CHECK.same("count(0) of the second", other.count(0), 0);
    }
}
