/** Promise 7: link. Each test bears the sentence that it holds the program to. */
public final class LinkTest {
    public static void main(String[] args) {
        answersTheImagesSize();
        nothingIsLinked();
        linkAgain();
        definedTwice();
        definedAndImported();
        namesInUseTogether();
        referenceToNeither();
        exportOfNeither();
        exportMustBeDefined();
        clashBeforeLack();
        imageIsAsItWas();
        noImageStaysNone();
        whatIsLoadedStays();
        Expect.end();
    }

    /** "Links: the image's size." */
    private static void answersTheImagesSize() {
        for (int size : new int[] {1, 40}) {
            ImageForge forge = Build.withCode(size);
            int answer = forge.link();
            Expect.same("link() with code of " + size, answer, 128);
            Words.expect("the header's word", forge, 12, answer);
            forge.image(answer - 1);
            Expect.noSuchElement("the byte behind", () -> forge.image(answer));
        }
    }

    private static void nothingIsLinked() {
        ImageForge forge = new ImageForge();
        Expect.same("link() of nothing", forge.link(), 64);
        Words.expect("its header", forge, 0, 0x5A4D, 5, 4096, 64, 0);
        Words.expect("its sections", forge, 24, 64, 0, 64, 0, 64, 0, 64, 0, 64, 0);
        Expect.same("the last byte", forge.image(63), 0);
        Expect.noSuchElement("the byte behind", () -> forge.image(64));
        Expect.same("load() of it", forge.load(64), 0);
        Expect.same("its first byte", forge.at(64), 77);
    }

    /** A second link begins anew: nothing spoiled, nothing added twice, no trace of a longer image. */
    private static void linkAgain() {
        ImageForge forge = Build.withCode(8);
        forge.define(0, 0, 0, 0);
        forge.refer(0, 0, 0, 0, 0);
        forge.imported(1, 0, 0);
        Expect.same("link()", forge.link(), 256);
        forge.spoil(70, 255);
        Expect.same("link() again", forge.link(), 256);
        Words.expect("the word", forge, 64, 4160, 0);
        Words.expect("one block again", forge, 192, 64, 12, 0x3000, 0);
        forge.imported(1, -1, 0);
        Expect.same("link() of less", forge.link(), 192);
        Words.expect("the relocations", forge, 128, 64, 12, 0x3000, 0, 0, 0);
        Expect.noSuchElement("image(192)", () -> forge.image(192));
        Expect.same("load() of it", forge.load(0), 0);
        ImageForge moving = new ImageForge();
        moving.put(1, 0, 0, 4);
        moving.define(1, 0, 0, 0);
        moving.refer(1, 0, 0, 0, 0);
        moving.link();
        moving.put(0, 0, 0, 8);
        moving.link();
        Words.expect("a word that lies elsewhere now", moving, 128, 64, 12, 0x3008, 0);
    }

    /** "Throws IllegalStateException when a name is defined twice" */
    private static void definedTwice() {
        for (int i = 0; i < 16; i++) {
            int name = i;
            Refused.illegalState("name " + name + " twice in an object", () -> {
                ImageForge forge = Build.linkedCode(4);
                forge.define(0, name, 0, 0);
                forge.define(0, name, 0, 0);
                return forge;
            }, ImageForge::link);
            Refused.illegalState("name " + name + " in two objects", () -> {
                ImageForge forge = Build.linkedCode(4);
                forge.define(0, name, 0, 0);
                forge.define(3, name, 1, 0);
                return forge;
            }, ImageForge::link);
        }
        ImageForge once = new ImageForge();
        for (int name = 0; name < 16; name++) {
            once.define(name / 4, name, 0, 0);
        }
        Expect.same("sixteen names, each defined once", once.link(), 64);
        once.define(3, 0, 0, 0);
        Expect.illegalState("one of them twice", once::link);
    }

    /** "or defined and imported" */
    private static void definedAndImported() {
        for (int i = 0; i < 16; i++) {
            int name = i;
            Refused.illegalState("name " + name + " defined and imported", () -> {
                ImageForge forge = Build.linkedCode(4);
                forge.define(2, name, 0, 0);
                forge.imported(name, name % 4, 99);
                return forge;
            }, ImageForge::link);
        }
        ImageForge forge = new ImageForge();
        forge.imported(7, 0, 0);
        forge.define(2, 7, 0, 0);
        Expect.illegalState("imported first, then defined", forge::link);
        forge.imported(7, -1, 0);
        Expect.same("imported no more", forge.link(), 64);
    }

    private static void namesInUseTogether() {
        ImageForge forge = new ImageForge();
        for (int name = 0; name < 16; name += 2) {
            forge.define(name / 4, name, 0, 0);
            forge.imported(name + 1, 0, 0);
        }
        Expect.same("defined names beside imported ones", forge.link(), 128);
        forge.imported(1, 1, 1);
        forge.imported(1, 2, 2);
        Expect.same("a name imported three times is imported once", forge.link(), 128);
    }

    /** "otherwise NoSuchElementException when a name that a reference means [...] is neither" */
    private static void referenceToNeither() {
        for (int i = 0; i < 16; i++) {
            int name = i;
            Refused.noSuchElement("a reference to name " + name, () -> {
                ImageForge forge = Build.linkedCode(4);
                forge.refer(0, 0, 0, name % 3, name);
                return forge;
            }, ImageForge::link);
            ImageForge defined = Build.withCode(4);
            defined.refer(0, 0, 0, 1, name);
            defined.define(3, name, 1, 0);
            Expect.same("a reference to a defined name", defined.link(), 128);
            ImageForge imported = Build.withCode(4);
            imported.refer(0, 0, 0, 1, name);
            imported.imported(name, 0, 0);
            Expect.same("a reference to an imported name", imported.link(), 192);
        }
        ImageForge last = new ImageForge();
        last.define(0, 0, 0, 0);
        Build.bytes(last, 3, 1, 40, 0);
        for (int i = 0; i < 7; i++) {
            last.refer(3, 1, 4 * i, 2, 0);
        }
        last.link();
        last.refer(3, 1, 36, 2, 1);
        Expect.noSuchElement("the last reference of the last object", last::link);
    }

    /** "or that is exported is neither" */
    private static void exportOfNeither() {
        for (int i = 0; i < 16; i++) {
            int name = i;
            Refused.noSuchElement("an export of name " + name, () -> {
                ImageForge forge = Build.linkedCode(4);
                forge.exported(name, true);
                return forge;
            }, ImageForge::link);
        }
    }

    /** "(an exported one must be defined)" */
    private static void exportMustBeDefined() {
        for (int i = 0; i < 16; i++) {
            int name = i;
            Refused.noSuchElement("an export of name " + name + ", imported", () -> {
                ImageForge forge = Build.linkedCode(4);
                forge.exported(name, true);
                forge.imported(name, 1, 1);
                return forge;
            }, ImageForge::link);
        }
        ImageForge forge = new ImageForge();
        forge.exported(14, true);
        forge.imported(14, 1, 1);
        Expect.noSuchElement("exported and imported", forge::link);
        forge.imported(14, -1, 1);
        Expect.noSuchElement("exported and imported no more", forge::link);
        forge.define(0, 14, 0, 0);
        Expect.same("exported and defined", forge.link(), 128);
    }

    /** "of two exceptions the one that it names first is thrown." */
    private static void clashBeforeLack() {
        ImageForge forge = Build.withCode(4);
        forge.exported(0, true);
        forge.refer(0, 0, 0, 0, 1);
        forge.define(0, 15, 0, 0);
        forge.imported(15, 0, 0);
        Expect.illegalState("the last name defined and imported, the first one lacks", forge::link);
        forge.imported(15, -1, 0);
        forge.define(0, 15, 0, 0);
        Expect.illegalState("the last name defined twice, the first one lacks", forge::link);
        ImageForge both = new ImageForge();
        both.exported(3, true);
        both.define(0, 3, 0, 0);
        both.imported(3, 0, 0);
        Expect.illegalState("a name exported, defined and imported", both::link);
    }

    /** "Then the image is as it was." */
    private static void imageIsAsItWas() {
        ImageForge forge = Build.withCode(1);
        forge.link();
        forge.spoil(64, 0x5A);
        int sum = forge.seal();
        forge.put(0, 0, 0x66, 8);
        forge.exported(0, true);
        Expect.noSuchElement("a lack", forge::link);
        Words.expect("the image with what was spoiled", forge, 64, 0x5A, 0, 0);
        forge.define(0, 0, 0, 0);
        forge.define(0, 0, 0, 0);
        Expect.illegalState("a clash", forge::link);
        Words.expect("the image with what was spoiled", forge, 64, 0x5A, 0, 0);
        Words.expect("its size and its checksum", forge, 12, 128, 0, sum);
        Expect.same("load() of it", forge.load(0), 0);
        Expect.same("the byte", forge.at(64), 0x5A);
        Refused.illegalState("a clash in a rich object", () -> {
            ImageForge rich = Build.rich();
            rich.imported(0, 0, 0);
            return rich;
        }, ImageForge::link);
        Refused.noSuchElement("a lack in a rich object", () -> {
            ImageForge rich = Build.rich();
            rich.imported(12, -1, 0);
            return rich;
        }, ImageForge::link);
    }

    private static void noImageStaysNone() {
        ImageForge forge = new ImageForge();
        forge.exported(0, true);
        Expect.noSuchElement("a lack", forge::link);
        Expect.noSuchElement("still no image", () -> forge.image(0));
        Expect.illegalState("nothing to seal", forge::seal);
        forge.define(0, 0, 0, 0);
        forge.define(1, 0, 0, 0);
        Expect.illegalState("a clash", forge::link);
        Expect.noSuchElement("still no image", () -> forge.image(0));
        Expect.illegalState("nothing to load", () -> forge.load(0));
    }

    private static void whatIsLoadedStays() {
        ImageForge forge = Build.linkedCode(4);
        forge.load(8192);
        forge.put(0, 0, -1, 4);
        forge.link();
        Expect.same("a byte that is linked later", forge.at(8192 + 68), 0);
        Expect.same("what is loaded", forge.at(8192), 77);
    }
}
