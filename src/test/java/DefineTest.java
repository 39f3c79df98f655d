/** Promise 3: define. Each test bears the sentence that it holds the program to. */
public final class DefineTest {
    private static final int MIN = Integer.MIN_VALUE;
    private static final int MAX = Integer.MAX_VALUE;

    public static void main(String[] args) {
        aNameIsAtAPlaceOfAPart();
        placeStaysWhenThePartGrows();
        noSuchObject();
        noSuchName();
        noSuchPart();
        placeUpToThePartsSize();
        sixAreTaken();
        theSeventhIsNot();
        eachDefinitionCounts();
        refusedOnesDoNotCount();
        argumentBeforeState();
        Expect.end();
    }

    private static ImageForge withSix() {
        ImageForge forge = Build.withCode(4);
        for (int name = 0; name < 6; name++) {
            forge.define(0, name, name % 2, 0);
        }
        return forge;
    }

    /** "A DEFINITION in an object says that a name is at a place of a part" */
    private static void aNameIsAtAPlaceOfAPart() {
        for (int object = 0; object < 4; object++) {
            for (int part = 0; part < 2; part++) {
                ImageForge forge = new ImageForge();
                for (int i = 0; i < 8; i++) {
                    Build.bytes(forge, i / 2, i % 2, 4, 0);
                }
                forge.define(object, 15, part, 3);
                forge.exported(15, true);
                forge.link();
                Words.expect("the export", forge, 192, 1, 15, 64 + 64 * part + 4 * object + 3);
            }
        }
    }

    private static void placeStaysWhenThePartGrows() {
        ImageForge forge = Build.withCode(3);
        forge.define(0, 0, 0, 3);
        forge.put(0, 0, 0, 8);
        forge.link();
        Words.expect("the place of name 0", forge, 16, 67);
    }

    /** "Throws IllegalArgumentException when there is no such object" */
    private static void noSuchObject() {
        for (int bad : new int[] {-1, 4, MIN, MAX}) {
            Refused.illegalArgument("define in object " + bad, Build::rich, f -> f.define(bad, 15, 0, 0));
        }
        for (int good : new int[] {0, 3}) {
            ImageForge forge = new ImageForge();
            forge.define(good, 0, 0, 0);
            forge.link();
            Words.expect("a definition in object " + good, forge, 16, 64);
        }
    }

    /** "Throws IllegalArgumentException when there is no such [...] name" */
    private static void noSuchName() {
        for (int bad : new int[] {-1, 16, MIN, MAX}) {
            Refused.illegalArgument("define of name " + bad, Build::rich, f -> f.define(0, bad, 0, 0));
        }
        for (int good : new int[] {0, 15}) {
            ImageForge forge = new ImageForge();
            forge.define(0, good, 0, 0);
            forge.exported(good, true);
            Expect.same("link() with name " + good, forge.link(), 128);
        }
    }

    /** "Throws IllegalArgumentException when there is no such [...] part" */
    private static void noSuchPart() {
        for (int bad : new int[] {-1, 2, MIN, MAX}) {
            Refused.illegalArgument("define in part " + bad, Build::rich, f -> f.define(0, 15, bad, 0));
        }
        for (int good : new int[] {0, 1}) {
            ImageForge forge = Build.withCode(1);
            forge.define(0, 0, good, 0);
            forge.link();
            Words.expect("a definition in part " + good, forge, 16, 64 + 64 * good);
        }
    }

    /** "or place is not 0 .. the part's size" */
    private static void placeUpToThePartsSize() {
        for (int size : new int[] {0, 1, 4, 39, 40}) {
            for (int bad : new int[] {-1, size + 1, MIN, MAX}) {
                Refused.illegalArgument("define at place " + bad + " of " + size, () -> Build.withCode(size),
                    f -> f.define(0, 0, 0, bad));
            }
            for (int good : new int[] {0, size}) {
                ImageForge forge = Build.withCode(size);
                forge.define(0, 0, 0, good);
                forge.link();
                Words.expect("the place " + good + " of " + size, forge, 16, 64 + good);
            }
        }
        ImageForge other = Build.withCode(8);
        Expect.illegalArgument("the size of the other part", () -> other.define(0, 0, 1, 1));
        Expect.illegalArgument("the size of another object", () -> other.define(1, 0, 0, 1));
    }

    private static void sixAreTaken() {
        ImageForge forge = new ImageForge();
        for (int i = 0; i < 24; i++) {
            forge.define(i / 6, i < 16 ? i : 0, i % 2, 0);
        }
        for (int i = 0; i < 4; i++) {
            int object = i;
            Expect.illegalState("the seventh of object " + i, () -> forge.define(object, 1, 0, 0));
        }
    }

    /** "IllegalStateException when the object has 6." */
    private static void theSeventhIsNot() {
        Refused.illegalState("the seventh definition", DefineTest::withSix, f -> f.define(0, 6, 0, 0));
        Refused.illegalState("the seventh definition, in data", DefineTest::withSix, f -> f.define(0, 6, 1, 0));
        ImageForge forge = withSix();
        Expect.illegalState("the seventh definition", () -> forge.define(0, 6, 0, 0));
        forge.define(1, 6, 0, 0);
        Expect.same("name 6 is defined once, in object 1", forge.link(), 128);
    }

    private static void eachDefinitionCounts() {
        ImageForge forge = new ImageForge();
        for (int i = 0; i < 6; i++) {
            forge.define(2, 9, 0, 0);
        }
        Expect.illegalState("the seventh definition of one name", () -> forge.define(2, 9, 0, 0));
        Expect.illegalState("the seventh definition, of another name", () -> forge.define(2, 8, 0, 0));
    }

    private static void refusedOnesDoNotCount() {
        ImageForge forge = new ImageForge();
        for (int i = 0; i < 7; i++) {
            Expect.illegalArgument("define at place 1 of nothing", () -> forge.define(0, 0, 0, 1));
        }
        for (int name = 0; name < 6; name++) {
            forge.define(0, name, 0, 0);
        }
        Expect.same("link() of six names", forge.link(), 64);
    }

    /** "of two exceptions the one that it names first is thrown." */
    private static void argumentBeforeState() {
        Refused.illegalArgument("the seventh, of no name", DefineTest::withSix, f -> f.define(0, 16, 0, 0));
        Refused.illegalArgument("the seventh, in no part", DefineTest::withSix, f -> f.define(0, 6, 2, 0));
        Refused.illegalArgument("the seventh, at no place", DefineTest::withSix, f -> f.define(0, 6, 0, 5));
        Refused.illegalArgument("the seventh, below 0", DefineTest::withSix, f -> f.define(0, 6, 0, -1));
    }
}
