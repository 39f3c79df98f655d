/** Promises 1 to 6: a new object, put, define, refer, imported, exported. */
public final class ObjectsTest {
    private static final int MIN = Integer.MIN_VALUE;
    private static final int MAX = Integer.MAX_VALUE;

    public static void main(String[] args) {
        newObject();
        putAppendsLowestFirst();
        putRefuses();
        defineRefuses();
        defineTakesTheEndOfAPart();
        referRefuses();
        referOverlaps();
        referLimit();
        importedRefuses();
        importedReplaces();
        exportedRefuses();
        exportedAndNoMore();
        Expect.end();
    }

    private static ImageForge withCode(int bytes) {
        ImageForge forge = new ImageForge();
        for (int i = 0; i < bytes; i++) {
            forge.put(0, 0, 0, 1);
        }
        return forge;
    }

    private static void newObject() {
        ImageForge forge = new ImageForge();
        Expect.noSuchElement("image(0) of a new object", () -> forge.image(0));
        Expect.noSuchElement("spoil(0, 1) of a new object", () -> forge.spoil(0, 1));
        Expect.illegalState("seal() of a new object", forge::seal);
        Expect.illegalState("load(0) of a new object", () -> forge.load(0));
        Expect.same("at(0) of a new object", forge.at(0), -1);
        Expect.same("find(0) of a new object", forge.find(0), 0);
        for (int object = 0; object < 4; object++) {
            Expect.same("first put into an object's code", forge.put(object, 0, 0, 1), 1);
            Expect.same("first put into an object's data", forge.put(object, 1, 0, 1), 1);
        }
        ImageForge empty = new ImageForge();
        Expect.same("link() of nothing", empty.link(), 64);
        Words.expect("sections of nothing", empty, 24, 64, 0, 64, 0, 64, 0, 64, 0, 64, 0);
        ImageForge importing = new ImageForge();
        importing.imported(0, 0, 0);
        importing.link();
        Expect.same("a new object has no offers", importing.load(0), 4);
    }

    private static void putAppendsLowestFirst() {
        ImageForge forge = new ImageForge();
        Expect.same("put of 8", forge.put(3, 1, 0x8877665544332211L, 8), 8);
        Expect.same("put of 1", forge.put(3, 1, -2, 1), 9);
        Expect.same("put of 3", forge.put(3, 1, 0x7F030201, 3), 12);
        Expect.same("put of 8 into another part", forge.put(3, 0, -1, 8), 8);
        forge.link();
        Words.expect("data", forge, 128, 0x44332211, 0x88776655, 0x030201FE);
        Words.expect("code", forge, 64, -1, -1);
    }

    private static void putRefuses() {
        ImageForge forge = new ImageForge();
        for (int bad : new int[] {-1, 4, MIN, MAX}) {
            Expect.illegalArgument("put into object " + bad, () -> forge.put(bad, 0, 1, 1));
        }
        for (int bad : new int[] {-1, 2, MIN, MAX}) {
            Expect.illegalArgument("put into part " + bad, () -> forge.put(0, bad, 1, 1));
        }
        for (int bad : new int[] {0, -1, 9, MIN, MAX}) {
            Expect.illegalArgument("put of n " + bad, () -> forge.put(0, 0, 1, bad));
        }
        for (int size = 8; size <= 32; size += 8) {
            Expect.same("put of 8", forge.put(0, 0, 0, 8), size);
        }
        Expect.same("put up to 39", forge.put(0, 0, 0, 7), 39);
        Expect.illegalState("put of 2 behind 39", () -> forge.put(0, 0, 7, 2));
        Expect.same("put up to 40", forge.put(0, 0, 5, 1), 40);
        Expect.illegalState("put of 1 behind 40", () -> forge.put(0, 0, 7, 1));
        Expect.illegalArgument("put of 9 behind 40", () -> forge.put(0, 0, 7, 9));
        Expect.same("the other part has room", forge.put(0, 1, 0, 1), 1);
        forge.link();
        Words.expect("sizes after refused puts", forge, 24, 64, 40, 128, 1);
        Words.expect("the last word", forge, 100, 5 << 24);
    }

    private static void defineRefuses() {
        ImageForge forge = withCode(4);
        for (int bad : new int[] {-1, 4, MIN, MAX}) {
            Expect.illegalArgument("define in object " + bad, () -> forge.define(bad, 0, 0, 0));
        }
        for (int bad : new int[] {-1, 16, MIN, MAX}) {
            Expect.illegalArgument("define of name " + bad, () -> forge.define(0, bad, 0, 0));
        }
        for (int bad : new int[] {-1, 2, MIN, MAX}) {
            Expect.illegalArgument("define in part " + bad, () -> forge.define(0, 0, bad, 0));
        }
        for (int bad : new int[] {-1, 5, MIN, MAX}) {
            Expect.illegalArgument("define at place " + bad, () -> forge.define(0, 0, 0, bad));
        }
        Expect.illegalArgument("define behind an empty part", () -> forge.define(0, 0, 1, 1));
        for (int name = 0; name < 6; name++) {
            forge.define(0, name, name % 2, 0);
        }
        Expect.illegalState("the seventh definition", () -> forge.define(0, 6, 0, 0));
        Expect.illegalArgument("the seventh definition of no name", () -> forge.define(0, 16, 0, 0));
        Expect.illegalArgument("the seventh definition at no place", () -> forge.define(0, 6, 0, 5));
        forge.define(1, 7, 0, 0);
        Expect.same("refused definitions are none", forge.link(), 128);
        forge.exported(6, true);
        Expect.noSuchElement("name 6 is not defined", forge::link);
    }

    private static void defineTakesTheEndOfAPart() {
        ImageForge forge = withCode(3);
        forge.define(0, 0, 0, 3);
        forge.define(0, 1, 1, 0);
        forge.exported(0, true);
        forge.exported(1, true);
        forge.link();
        Words.expect("exports", forge, 128, 2, 0, 67, 1, 128);
    }

    private static void referRefuses() {
        ImageForge forge = withCode(8);
        forge.define(0, 0, 0, 0);
        for (int bad : new int[] {-1, 4, MIN, MAX}) {
            Expect.illegalArgument("refer in object " + bad, () -> forge.refer(bad, 0, 0, 0, 0));
        }
        for (int bad : new int[] {-1, 2, MIN, MAX}) {
            Expect.illegalArgument("refer in part " + bad, () -> forge.refer(0, bad, 0, 0, 0));
        }
        for (int bad : new int[] {-1, 5, 8, MIN, MAX, MAX - 3}) {
            Expect.illegalArgument("refer at place " + bad, () -> forge.refer(0, 0, bad, 0, 0));
        }
        for (int bad : new int[] {-1, 3, MIN, MAX}) {
            Expect.illegalArgument("refer of kind " + bad, () -> forge.refer(0, 0, 0, bad, 0));
        }
        for (int bad : new int[] {-1, 16, MIN, MAX}) {
            Expect.illegalArgument("refer to name " + bad, () -> forge.refer(0, 0, 0, 0, bad));
        }
        Expect.illegalArgument("refer in an empty part", () -> forge.refer(0, 1, 0, 0, 0));
        forge.link();
        Words.expect("refused references are none", forge, 64, 0, 0);
        forge.refer(0, 0, 4, 2, 0);
        forge.link();
        Words.expect("the last word of a part", forge, 64, 0, 64);
    }

    private static void referOverlaps() {
        ImageForge forge = new ImageForge();
        for (int i = 0; i < 5; i++) {
            forge.put(0, 0, 0, 4);
            forge.put(0, 1, 0, 4);
            forge.put(1, 0, 0, 4);
        }
        forge.define(0, 0, 0, 0);
        forge.refer(0, 0, 7, 2, 0);
        for (int place = 4; place <= 10; place++) {
            int at = place;
            Expect.illegalArgument("refer at " + at + " over 7", () -> forge.refer(0, 0, at, 2, 0));
        }
        forge.refer(0, 0, 3, 2, 0);
        forge.refer(0, 0, 11, 2, 0);
        forge.refer(0, 1, 7, 2, 0);
        forge.refer(1, 0, 7, 2, 0);
        forge.link();
        Words.expect("words side by side", forge, 67, 64, 64, 64);
        Words.expect("a word in another object", forge, 91, 64);
        Words.expect("a word in another part", forge, 135, 64);
    }

    private static void referLimit() {
        ImageForge forge = withCode(40);
        forge.put(0, 1, 0, 4);
        forge.put(1, 0, 0, 4);
        forge.define(0, 0, 0, 0);
        for (int i = 0; i < 8; i++) {
            forge.refer(0, 0, 4 * i, 0, 0);
        }
        Expect.illegalState("the ninth reference", () -> forge.refer(0, 0, 32, 0, 0));
        Expect.illegalState("the ninth reference, in data", () -> forge.refer(0, 1, 0, 0, 0));
        Expect.illegalArgument("the ninth reference, over another", () -> forge.refer(0, 0, 28, 0, 0));
        Expect.illegalArgument("the ninth reference, of no kind", () -> forge.refer(0, 0, 32, 3, 0));
        forge.refer(1, 0, 0, 2, 0);
        forge.link();
        Words.expect("eight words and none more", forge, 92, 4160, 0, 0, 64);
    }

    private static void importedRefuses() {
        ImageForge forge = new ImageForge();
        for (int bad : new int[] {-1, 16, MIN, MAX}) {
            Expect.illegalArgument("imported name " + bad, () -> forge.imported(bad, 0, 0));
            Expect.illegalArgument("name " + bad + " imported no more", () -> forge.imported(bad, -1, 0));
        }
        for (int bad : new int[] {-2, 4, MIN, MAX}) {
            Expect.illegalArgument("imported from library " + bad, () -> forge.imported(0, bad, 0));
        }
        for (int bad : new int[] {-1, 100, MIN, MAX}) {
            Expect.illegalArgument("imported by ordinal " + bad, () -> forge.imported(0, 0, bad));
            forge.imported(0, -1, bad);
        }
        Expect.same("nothing is imported", forge.link(), 64);
        forge.imported(15, 3, 99);
        Expect.illegalArgument("a wrong ordinal in place of a right one", () -> forge.imported(15, 3, 100));
        Expect.same("one name is imported", forge.link(), 128);
        Words.expect("imports", forge, 64, 4, 80, 0, 0, Words.ORDINAL + 99, 0);
        Words.expect("the section", forge, 40, 64, 24);
    }

    private static void importedReplaces() {
        ImageForge forge = new ImageForge();
        forge.imported(4, 1, 10);
        forge.imported(4, 2, 0);
        forge.link();
        Words.expect("the library that was said last", forge, 64, 3, 80, 0, 0, Words.ORDINAL, 0);
        forge.imported(4, -1, -5);
        Expect.same("imported no more", forge.link(), 64);
        forge.imported(4, 0, 7);
        forge.link();
        Words.expect("imported again", forge, 64, 1, 80, 0, 0, Words.ORDINAL + 7, 0);
    }

    private static void exportedRefuses() {
        ImageForge forge = new ImageForge();
        for (int bad : new int[] {-1, 16, MIN, MAX}) {
            Expect.illegalArgument("exported name " + bad, () -> forge.exported(bad, true));
            Expect.illegalArgument("exported name " + bad + " no more", () -> forge.exported(bad, false));
        }
        Expect.same("nothing is exported", forge.link(), 64);
    }

    private static void exportedAndNoMore() {
        ImageForge forge = withCode(4);
        forge.define(0, 15, 0, 2);
        forge.define(0, 0, 0, 1);
        forge.exported(15, true);
        forge.exported(15, true);
        forge.exported(0, true);
        forge.link();
        Words.expect("two exports", forge, 128, 2, 0, 65, 15, 66);
        forge.exported(0, false);
        forge.exported(3, false);
        forge.link();
        Words.expect("one export", forge, 128, 1, 15, 66, 0, 0);
        forge.exported(15, false);
        Expect.same("no export", forge.link(), 128);
        Words.expect("an empty section", forge, 48, 128, 0);
    }
}
