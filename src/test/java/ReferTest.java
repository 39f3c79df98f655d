/** Promise 4: refer. Each test bears the sentence that it holds the program to. */
public final class ReferTest {
    private static final int MIN = Integer.MIN_VALUE;
    private static final int MAX = Integer.MAX_VALUE;

    public static void main(String[] args) {
        aWordLowestFirst();
        noSuchObject();
        noSuchPart();
        noSuchKind();
        noSuchName();
        allInThePart();
        overlapsAnother();
        sideBySide();
        otherPartsAndObjectsDoNotOverlap();
        eightAreTaken();
        theNinthIsNot();
        refusedOnesDoNotCount();
        argumentBeforeState();
        Expect.end();
    }

    private static ImageForge withEight() {
        ImageForge forge = Build.withCode(40);
        Build.bytes(forge, 0, 1, 4, 0);
        Build.bytes(forge, 1, 0, 4, 0);
        forge.define(0, 0, 0, 0);
        for (int i = 0; i < 8; i++) {
            forge.refer(0, 0, 4 * i, 0, 0);
        }
        return forge;
    }

    /** Name 0 at the code's beginning, and a reference at 7 of 20 bytes. */
    private static ImageForge withOneAt7() {
        ImageForge forge = Build.withCode(20);
        Build.bytes(forge, 0, 1, 20, 0);
        Build.bytes(forge, 1, 0, 20, 0);
        forge.define(0, 0, 0, 0);
        forge.refer(0, 0, 7, 2, 0);
        return forge;
    }

    /** "A REFERENCE in an object is a word (4 bytes, the lowest first) in a part" */
    private static void aWordLowestFirst() {
        ImageForge forge = new ImageForge();
        forge.put(0, 0, 0x0807060504030201L, 8);
        forge.imported(3, 0, 0);
        forge.refer(0, 0, 3, 2, 3);
        forge.link();
        int[] want = {1, 2, 3, 4 + 144, 5, 6, 7, 8};
        for (int i = 0; i < 8; i++) {
            Expect.same("byte " + i, forge.image(64 + i), want[i]);
        }
    }

    /** "Throws IllegalArgumentException when there is no such object" */
    private static void noSuchObject() {
        for (int bad : new int[] {-1, 4, MIN, MAX}) {
            Refused.illegalArgument("refer in object " + bad, Build::rich, f -> f.refer(bad, 1, 0, 0, 0));
        }
        for (int good : new int[] {0, 3}) {
            ImageForge forge = new ImageForge();
            forge.put(good, 0, 0, 4);
            forge.define(0, 0, 0, 0);
            forge.refer(good, 0, 0, 2, 0);
            forge.link();
            Words.expect("a word of object " + good, forge, 64, 64);
        }
    }

    /** "Throws IllegalArgumentException when there is no such [...] part" */
    private static void noSuchPart() {
        for (int bad : new int[] {-1, 2, MIN, MAX}) {
            Refused.illegalArgument("refer in part " + bad, Build::rich, f -> f.refer(2, bad, 0, 0, 0));
        }
        for (int good : new int[] {0, 1}) {
            ImageForge forge = new ImageForge();
            forge.put(0, good, 0, 4);
            forge.define(0, 0, 0, 0);
            forge.refer(0, good, 0, 2, 0);
            forge.link();
            Words.expect("a word of part " + good, forge, 64, 64);
        }
    }

    /** "Throws IllegalArgumentException when there is no such [...] kind" */
    private static void noSuchKind() {
        for (int bad : new int[] {-1, 3, MIN, MAX}) {
            Refused.illegalArgument("refer of kind " + bad, Build::rich, f -> f.refer(2, 1, 0, bad, 0));
        }
        int[] want = {4096 + 64, 64 - 68, 64};
        for (int good = 0; good < 3; good++) {
            ImageForge forge = Build.withCode(4);
            forge.define(0, 0, 0, 0);
            forge.refer(0, 0, 0, good, 0);
            forge.link();
            Words.expect("a word of kind " + good, forge, 64, want[good]);
        }
    }

    /** "Throws IllegalArgumentException when there is no such [...] name" */
    private static void noSuchName() {
        for (int bad : new int[] {-1, 16, MIN, MAX}) {
            Refused.illegalArgument("refer to name " + bad, Build::rich, f -> f.refer(2, 1, 0, 0, bad));
        }
        for (int good : new int[] {0, 15}) {
            ImageForge forge = Build.withCode(4);
            forge.define(0, good, 0, 4);
            forge.refer(0, 0, 0, 2, good);
            forge.link();
            Words.expect("a word that means name " + good, forge, 64, 68);
        }
    }

    /** "or the word is not all in the part" */
    private static void allInThePart() {
        for (int size = 0; size <= 40; size += size < 5 ? 1 : 7) {
            int bytes = size;
            for (int bad : new int[] {-1, -4, size - 3, size, MIN, MAX, MAX - 3}) {
                Refused.illegalArgument("refer at place " + bad + " of " + size, () -> Build.withCode(bytes),
                    f -> f.refer(0, 0, bad, 0, 0));
            }
            if (size >= 4) {
                ImageForge forge = Build.withCode(size);
                forge.define(0, 0, 0, 0);
                forge.refer(0, 0, size - 4, 2, 0);
                forge.link();
                Words.expect("the last word of " + size, forge, 64 + size - 4, 64);
            }
        }
        ImageForge first = Build.withCode(40);
        first.define(0, 0, 0, 0);
        first.refer(0, 0, 0, 2, 0);
        first.refer(0, 0, 36, 2, 0);
        first.link();
        Words.expect("the first word of 40", first, 64, 64);
        Words.expect("the last word of 40", first, 100, 64);
        ImageForge other = Build.withCode(8);
        Expect.illegalArgument("the size of the other part", () -> other.refer(0, 1, 0, 0, 0));
        Expect.illegalArgument("the size of another object", () -> other.refer(1, 0, 0, 0, 0));
    }

    /** "or overlaps one of another reference" */
    private static void overlapsAnother() {
        for (int place = 4; place <= 10; place++) {
            int at = place;
            Refused.illegalArgument("refer at " + at + " over 7", ReferTest::withOneAt7, f -> f.refer(0, 0, at, 2, 0));
        }
        for (int kind = 0; kind < 3; kind++) {
            for (int other = 0; other < 3; other++) {
                ImageForge forge = Build.withCode(8);
                int second = other;
                forge.refer(0, 0, 0, kind, 0);
                Expect.illegalArgument("words of kinds that overlap", () -> forge.refer(0, 0, 3, second, 1));
            }
        }
        Expect.that("every reference counts, not the last alone", overlapsTheFirstOfTwo());
    }

    private static boolean overlapsTheFirstOfTwo() {
        ImageForge forge = withOneAt7();
        forge.refer(0, 0, 16, 2, 0);
        try {
            forge.refer(0, 0, 10, 2, 0);
        } catch (IllegalArgumentException e) {
            return true;
        }
        return false;
    }

    private static void sideBySide() {
        ImageForge forge = withOneAt7();
        forge.refer(0, 0, 3, 2, 0);
        forge.refer(0, 0, 11, 2, 0);
        forge.link();
        Words.expect("words side by side", forge, 67, 64, 64, 64);
        Words.expect("the word behind them", forge, 79, 0);
    }

    private static void otherPartsAndObjectsDoNotOverlap() {
        ImageForge forge = withOneAt7();
        forge.refer(0, 1, 7, 2, 0);
        forge.refer(1, 0, 7, 2, 0);
        forge.link();
        Words.expect("a word", forge, 71, 64);
        Words.expect("a word in another object", forge, 91, 64);
        Words.expect("a word in another part", forge, 135, 64);
    }

    private static void eightAreTaken() {
        ImageForge forge = new ImageForge();
        forge.define(0, 0, 0, 0);
        for (int object = 0; object < 4; object++) {
            Build.bytes(forge, object, 0, 16, 0);
            Build.bytes(forge, object, 1, 20, 0);
            for (int i = 0; i < 8; i++) {
                forge.refer(object, i % 2, i / 2 * 4, 2, 0);
            }
        }
        for (int i = 0; i < 4; i++) {
            int object = i;
            Expect.illegalState("the ninth of object " + i, () -> forge.refer(object, 1, 16, 2, 0));
        }
        forge.link();
        for (int i = 0; i < 16; i++) {
            Words.expect("the words of code", forge, 64 + 4 * i, 64);
            Words.expect("the words of data", forge, 128 + i / 4 * 20 + i % 4 * 4, 64);
        }
    }

    /** "IllegalStateException when the object has 8." */
    private static void theNinthIsNot() {
        Refused.illegalState("the ninth reference", ReferTest::withEight, f -> f.refer(0, 0, 32, 0, 0));
        Refused.illegalState("the ninth reference, in data", ReferTest::withEight, f -> f.refer(0, 1, 0, 0, 0));
        ImageForge forge = withEight();
        Expect.illegalState("the ninth reference", () -> forge.refer(0, 0, 32, 2, 0));
        forge.refer(1, 0, 0, 2, 0);
        forge.link();
        Words.expect("the eighth word, none more, and one of object 1", forge, 92, 4160, 0, 0, 64);
    }

    private static void refusedOnesDoNotCount() {
        ImageForge forge = Build.withCode(40);
        forge.define(0, 0, 0, 0);
        forge.refer(0, 0, 0, 2, 0);
        for (int i = 0; i < 9; i++) {
            Expect.illegalArgument("refer over another", () -> forge.refer(0, 0, 3, 2, 0));
        }
        for (int i = 1; i < 8; i++) {
            forge.refer(0, 0, 4 * i, 2, 0);
        }
        forge.link();
        Words.expect("the eighth word", forge, 92, 64, 0);
    }

    /** "of two exceptions the one that it names first is thrown." */
    private static void argumentBeforeState() {
        Refused.illegalArgument("the ninth, over another", ReferTest::withEight, f -> f.refer(0, 0, 29, 0, 0));
        Refused.illegalArgument("the ninth, over the end", ReferTest::withEight, f -> f.refer(0, 0, 37, 0, 0));
        Refused.illegalArgument("the ninth, in no part", ReferTest::withEight, f -> f.refer(0, 2, 0, 0, 0));
        Refused.illegalArgument("the ninth, of no kind", ReferTest::withEight, f -> f.refer(0, 0, 32, 3, 0));
        Refused.illegalArgument("the ninth, of no name", ReferTest::withEight, f -> f.refer(0, 0, 32, 0, 16));
    }
}
