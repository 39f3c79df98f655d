/** Promise 6: exported. Each test bears the sentence that it holds the program to. */
public final class ExportedTest {
    public static void main(String[] args) {
        fromNowOn();
        saidAgain();
        noMoreWithoutHavingBeen();
        noSuchName();
        Expect.end();
    }

    private static ImageForge withTwoNames() {
        ImageForge forge = Build.withCode(4);
        forge.define(0, 15, 0, 2);
        forge.define(0, 0, 0, 1);
        return forge;
    }

    /** "Whether a name is exported from now on." */
    private static void fromNowOn() {
        ImageForge forge = withTwoNames();
        forge.exported(15, true);
        forge.link();
        Words.expect("one export", forge, 128, 1, 15, 66, 0, 0);
        forge.exported(0, true);
        Words.expect("the image is as it was linked", forge, 128, 1, 15, 66, 0, 0);
        forge.link();
        Words.expect("two exports", forge, 128, 2, 0, 65, 15, 66);
        forge.exported(15, false);
        forge.link();
        Words.expect("the other export", forge, 128, 1, 0, 65, 0, 0);
        forge.exported(0, false);
        Expect.same("no export", forge.link(), 128);
        Words.expect("an empty section", forge, 48, 128, 0);
    }

    private static void saidAgain() {
        ImageForge forge = withTwoNames();
        forge.exported(15, true);
        forge.exported(15, true);
        forge.link();
        Words.expect("one export", forge, 128, 1, 15, 66, 0, 0);
        forge.exported(15, false);
        Expect.same("said twice, taken back once", forge.link(), 128);
        forge.exported(15, false);
        forge.exported(15, true);
        forge.link();
        Words.expect("taken back twice, said once", forge, 128, 1, 15, 66, 0, 0);
    }

    private static void noMoreWithoutHavingBeen() {
        ImageForge forge = withTwoNames();
        forge.exported(15, true);
        forge.exported(3, false);
        forge.link();
        Words.expect("another name stays", forge, 128, 1, 15, 66, 0, 0);
    }

    /** "Throws IllegalArgumentException when there is none." */
    private static void noSuchName() {
        for (int bad : new int[] {-1, 16, Integer.MIN_VALUE, Integer.MAX_VALUE}) {
            Refused.illegalArgument("exported name " + bad, Build::rich, f -> f.exported(bad, true));
            Refused.illegalArgument("name " + bad + " no more", Build::rich, f -> f.exported(bad, false));
        }
        for (int good : new int[] {0, 15}) {
            ImageForge forge = withTwoNames();
            forge.exported(good, true);
            forge.link();
            Words.expect("the export of name " + good, forge, 128, 1, good);
        }
    }
}
