/** Promise 14: find. Each test bears the sentence that it holds the program to. */
public final class FindTest {
    public static void main(String[] args) {
        addressOfAnExport();
        firstAndLastName();
        firstExportOfAName();
        noneOfThatName();
        nothingLoaded();
        noExports();
        asManyAsTheFirstWordSays();
        asAreAllInTheSection();
        withoutAFirstWord();
        whereTheImageSaidThatItLies();
        headerThatTheLoadHasChanged();
        exportsThatTheLoadHasChanged();
        addressWraps();
        whatIsLoadedCounts();
        changesNothing();
        Expect.end();
    }

    /** Exports at 128: a word, and the names 3, 5, 9 at 64, 66, 72; one ABSOLUTE word; 256 bytes. */
    private static ImageForge simple() {
        ImageForge forge = new ImageForge();
        forge.put(1, 0, 0, 8);
        forge.define(1, 9, 0, 8);
        forge.define(1, 3, 0, 0);
        forge.define(1, 5, 0, 2);
        forge.refer(1, 0, 4, 0, 3);
        forge.exported(9, true);
        forge.exported(5, true);
        forge.exported(3, true);
        Expect.same("the simple image", forge.link(), 256);
        return forge;
    }

    private static void found(String what, ImageForge forge, int third, int fifth, int ninth) {
        forge.seal();
        Expect.same("load() with " + what, forge.load(8192), 0);
        Expect.same("find(3) with " + what, forge.find(3), third);
        Expect.same("find(5) with " + what, forge.find(5), fifth);
        Expect.same("find(9) with " + what, forge.find(9), ninth);
    }

    /** "The address of the first export of a name that what is loaded has" */
    private static void addressOfAnExport() {
        ImageForge forge = simple();
        found("nothing spoiled", forge, 8192 + 64, 8192 + 66, 8192 + 72);
        forge.load(0);
        Expect.same("find(3) at 0", forge.find(3), 64);
        forge.load(1073741824);
        Expect.same("find(9) at the last address", forge.find(9), 1073741824 + 72);
    }

    private static void firstAndLastName() {
        ImageForge forge = Build.withCode(40);
        for (int name = 0; name < 16; name++) {
            forge.define(name / 4, name, 0, name < 4 ? name : 0);
            forge.exported(name, true);
        }
        forge.link();
        forge.load(64);
        for (int name = 0; name < 16; name++) {
            Expect.same("find(" + name + ")", forge.find(name), 64 + (name < 4 ? 64 + name : 104));
        }
        Expect.same("find(-1)", forge.find(-1), 0);
        Expect.same("find(16)", forge.find(16), 0);
    }

    private static void firstExportOfAName() {
        ImageForge forge = simple();
        Words.set(forge, 140, 3);
        found("name 3 twice", forge, 8192 + 64, 0, 8192 + 72);
        Words.set(forge, 132, 9);
        found("name 9 first and last", forge, 8192 + 66, 0, 8192 + 64);
    }

    /** "0 without one." */
    private static void noneOfThatName() {
        ImageForge forge = simple();
        forge.load(8192);
        for (int name : new int[] {0, 2, 4, 15, 16, -1, 64, 128, Integer.MIN_VALUE, Integer.MAX_VALUE}) {
            Expect.same("find(" + name + ")", forge.find(name), 0);
        }
    }

    private static void nothingLoaded() {
        ImageForge forge = simple();
        Expect.same("linked, not loaded", forge.find(3), 0);
        forge.spoil(0, 1);
        forge.load(8192);
        Expect.same("a refused load", forge.find(3), 0);
        Expect.same("a new object", new ImageForge().find(0), 0);
    }

    private static void noExports() {
        ImageForge none = new ImageForge();
        none.define(0, 0, 0, 0);
        none.link();
        none.load(64);
        Expect.same("a name that is not exported", none.find(0), 0);
        ImageForge imported = new ImageForge();
        imported.imported(0, 0, 0);
        imported.offer(0, 0, 5);
        imported.link();
        imported.load(64);
        Expect.same("a name that is imported", imported.find(0), 0);
    }

    /** "pairs from its second word on, as many as the first one says" */
    private static void asManyAsTheFirstWordSays() {
        for (int count : new int[] {0, 1, 2, 3, 4, 1000, Integer.MAX_VALUE, -1, Integer.MIN_VALUE}) {
            ImageForge forge = simple();
            Words.set(forge, 128, count);
            found("a count of " + count, forge,
                count > 0 ? 8192 + 64 : 0, count > 1 ? 8192 + 66 : 0, count > 2 ? 8192 + 72 : 0);
        }
    }

    /** "and as are all in the section" */
    private static void asAreAllInTheSection() {
        for (int size = 4; size <= 29; size++) {
            ImageForge forge = simple();
            Words.set(forge, 52, size);
            found("a section of " + size, forge,
                size >= 12 ? 8192 + 64 : 0, size >= 20 ? 8192 + 66 : 0, size >= 28 ? 8192 + 72 : 0);
        }
        ImageForge longer = simple();
        Words.set(longer, 128, 5);
        Words.set(longer, 156, 4);
        Words.set(longer, 160, 7);
        for (int size = 28; size <= 44; size++) {
            Words.set(longer, 52, size);
            found("a section of " + size, longer, 8192 + 64, 8192 + 66, 8192 + 72);
            Expect.same("the fourth pair of " + size, longer.find(4), size >= 36 ? 8192 + 7 : 0);
            Expect.same("the fifth pair of " + size, longer.find(0), size >= 44 ? 8192 : 0);
        }
        ImageForge end = simple();
        Words.set(end, 48, 244);
        Words.set(end, 52, 12);
        Words.set(end, 244, Integer.MAX_VALUE);
        Words.set(end, 248, 9);
        Words.set(end, 252, 1);
        found("a section that ends with the image", end, 0, 0, 8192 + 1);
    }

    /** "0 without a first word" */
    private static void withoutAFirstWord() {
        for (int size = 0; size < 4; size++) {
            ImageForge forge = simple();
            Words.set(forge, 52, size);
            found("a section of " + size, forge, 0, 0, 0);
            Words.set(forge, 48, 256 - size);
            found("the last bytes of the image, " + size, forge, 0, 0, 0);
        }
        ImageForge word = simple();
        Words.set(word, 48, 252);
        Words.set(word, 52, 4);
        Words.set(word, 252, 7);
        found("a first word alone, the last of the image", word, 0, 0, 0);
    }

    /** "by its section EXPORTS (where the image said that it lies [...])" */
    private static void whereTheImageSaidThatItLies() {
        ImageForge forge = simple();
        Words.set(forge, 48, 136);
        found("exports that begin 8 later", forge, 0, 8192 + 66, 8192 + 72);
        Words.set(forge, 48, 140);
        found("exports that begin 12 later", forge, 0, 0, 0);
        Expect.same("its first pair", forge.find(66), 8192 + 9);
        Words.set(forge, 48, 128);
        Expect.same("what is spoiled later", forge.find(66), 8192 + 9);
        ImageForge odd = simple();
        Words.set(odd, 48, 161);
        Words.set(odd, 161, 1);
        Words.set(odd, 165, 9);
        Words.set(odd, 169, 3);
        found("exports at 161", odd, 0, 0, 8192 + 3);
    }

    private static void headerThatTheLoadHasChanged() {
        ImageForge forge = simple();
        Words.set(forge, 192, 0);
        Words.set(forge, 200, 0x30343030);
        found("a place and a size that the load has changed", forge, 8192 + 64, 8192 + 66, 8192 + 72);
        Expect.same("the changed place", Words.inMemory(forge, 8192 + 48), 128 + 4096);
        Expect.same("the changed size", Words.inMemory(forge, 8192 + 52), 28 + 4096);
        Words.set(forge, 52, 12);
        found("a size that only grew by the load", forge, 8192 + 64, 0, 0);
        Words.set(forge, 52, 3);
        found("a first word that is only there after the load", forge, 0, 0, 0);
    }

    /** "that what is loaded has": its bytes, not those of the image */
    private static void exportsThatTheLoadHasChanged() {
        ImageForge forge = simple();
        Words.set(forge, 192, 128);
        Words.set(forge, 200, 0x30143008);
        found("a place and a name that the load has changed", forge, 8192 + 64 + 4096, 8192 + 66, 0);
        Expect.same("the changed name", forge.find(9 + 4096), 8192 + 72);
        ImageForge count = simple();
        Words.set(count, 128, 3 - 4096);
        Words.set(count, 192, 128);
        Words.set(count, 200, 0x3000);
        found("a count that the load has changed", count, 8192 + 64, 8192 + 66, 8192 + 72);
    }

    private static void addressWraps() {
        ImageForge forge = simple();
        Words.set(forge, 136, -8193);
        Words.set(forge, 144, Integer.MAX_VALUE);
        Words.set(forge, 152, Integer.MIN_VALUE);
        found("places beyond the image", forge, -1, Integer.MIN_VALUE + 8191, Integer.MIN_VALUE + 8192);
        Words.set(forge, 132, -7);
        forge.seal();
        forge.load(8192);
        Expect.same("a word that is no name of an object", forge.find(-7), -1);
    }

    private static void whatIsLoadedCounts() {
        ImageForge forge = simple();
        forge.load(8192);
        Words.set(forge, 136, 1);
        Expect.same("spoil() is for the image", forge.find(3), 8192 + 64);
        forge.exported(3, false);
        forge.link();
        Expect.same("link() is for the image", forge.find(3), 8192 + 64);
        forge.spoil(0, 1);
        Expect.same("a refused load", forge.load(0), 1);
        Expect.same("what was loaded stays", forge.find(3), 8192 + 64);
        forge.spoil(0, 1);
        Expect.same("load()", forge.load(64), 0);
        Expect.same("an export that is no more", forge.find(3), 0);
        Expect.same("another one", forge.find(5), 64 + 66);
    }

    private static void changesNothing() {
        Refused.answers("find(0)", 8192 + 68, Build::rich, f -> f.find(0));
        Refused.answers("find(15)", 0, Build::rich, f -> f.find(15));
        Refused.answers("find(-1)", 0, Build::rich, f -> f.find(-1));
    }
}
