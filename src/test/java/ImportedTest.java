/** Promise 5: imported. Each test bears the sentence that it holds the program to. */
public final class ImportedTest {
    private static final int MIN = Integer.MIN_VALUE;
    private static final int MAX = Integer.MAX_VALUE;

    public static void main(String[] args) {
        fromALibrary();
        inPlaceOfWhatWasSaidBefore();
        noMore();
        noMoreWithoutHavingBeen();
        noSuchName();
        noSuchLibrary();
        ordinalFrom0To99();
        ordinalIsNotLookedAt();
        Expect.end();
    }

    /** Name 4 is imported from library 1 by ordinal 10. */
    private static ImageForge withOne() {
        ImageForge forge = new ImageForge();
        forge.imported(4, 1, 10);
        return forge;
    }

    /** "A name is imported from a library" */
    private static void fromALibrary() {
        for (int library = 0; library < 4; library++) {
            ImageForge forge = new ImageForge();
            forge.imported(0, library, 50);
            Expect.same("link()", forge.link(), 128);
            Words.expect("imports", forge, 64, library + 1, 80, 0, 0, Words.ORDINAL + 50, 0);
            Words.expect("the section", forge, 40, 64, 24);
        }
    }

    /** "(in place of what was said before)" */
    private static void inPlaceOfWhatWasSaidBefore() {
        ImageForge library = withOne();
        library.imported(4, 2, 10);
        library.link();
        Words.expect("another library", library, 64, 3, 80, 0, 0, Words.ORDINAL + 10, 0, 0);
        ImageForge ordinal = withOne();
        ordinal.imported(4, 1, 0);
        ordinal.link();
        Words.expect("another ordinal", ordinal, 64, 2, 80, 0, 0, Words.ORDINAL, 0, 0);
        ImageForge same = withOne();
        same.imported(4, 1, 10);
        same.link();
        Words.expect("the same again", same, 64, 2, 80, 0, 0, Words.ORDINAL + 10, 0, 0);
    }

    /** "with library -1 it is no more" */
    private static void noMore() {
        ImageForge forge = withOne();
        forge.imported(4, 0, 3);
        forge.imported(4, -1, 10);
        Expect.same("link() without imports", forge.link(), 64);
        forge.imported(4, 0, 7);
        forge.link();
        Words.expect("imported again", forge, 64, 1, 80, 0, 0, Words.ORDINAL + 7, 0);
        ImageForge meant = Build.withCode(4);
        meant.refer(0, 0, 0, 0, 4);
        meant.imported(4, 0, 0);
        meant.link();
        meant.imported(4, -1, 0);
        Expect.noSuchElement("link() with a reference to what is imported no more", meant::link);
    }

    private static void noMoreWithoutHavingBeen() {
        ImageForge forge = withOne();
        forge.imported(5, -1, 10);
        forge.link();
        Words.expect("another name stays", forge, 64, 2, 80, 0, 0, Words.ORDINAL + 10, 0, 0);
    }

    /** "Throws IllegalArgumentException when there is no such name" */
    private static void noSuchName() {
        for (int bad : new int[] {-1, 16, MIN, MAX}) {
            Refused.illegalArgument("imported name " + bad, Build::rich, f -> f.imported(bad, 0, 0));
            Refused.illegalArgument("name " + bad + " no more", Build::rich, f -> f.imported(bad, -1, 0));
        }
        for (int good : new int[] {0, 15}) {
            ImageForge forge = new ImageForge();
            forge.imported(good, 0, 0);
            Expect.same("link() with name " + good, forge.link(), 128);
        }
    }

    /** "Throws IllegalArgumentException when there is no such [...] library" */
    private static void noSuchLibrary() {
        for (int bad : new int[] {-2, 4, MIN, MAX}) {
            Refused.illegalArgument("library " + bad, Build::rich, f -> f.imported(15, bad, 0));
            Refused.illegalArgument("library " + bad + " in place of 3", Build::rich, f -> f.imported(14, bad, 0));
        }
        for (int good : new int[] {0, 3}) {
            ImageForge forge = new ImageForge();
            forge.imported(2, good, 0);
            forge.link();
            Words.expect("library " + good, forge, 64, good + 1, 80);
        }
    }

    /** "or ordinal is not 0 .. 99" */
    private static void ordinalFrom0To99() {
        for (int bad : new int[] {-1, 100, MIN, MAX}) {
            Refused.illegalArgument("ordinal " + bad, Build::rich, f -> f.imported(15, 3, bad));
            Refused.illegalArgument("ordinal " + bad + " in place of 7", Build::rich, f -> f.imported(14, 3, bad));
        }
        for (int good : new int[] {0, 99}) {
            ImageForge forge = new ImageForge();
            forge.imported(2, 0, good);
            forge.link();
            Words.expect("ordinal " + good, forge, 80, Words.ORDINAL + good, 0);
        }
    }

    /** "(not looked at with -1)" */
    private static void ordinalIsNotLookedAt() {
        for (int ordinal : new int[] {-1, 0, 99, 100, MIN, MAX}) {
            ImageForge forge = withOne();
            forge.imported(4, -1, ordinal);
            Expect.same("link() after ordinal " + ordinal, forge.link(), 64);
        }
    }
}
