/**
 * Promise 7, what the image is: where its sections, its parts and its end lie. Each test bears the
 * sentence of the document's terms that it holds the program to.
 */
public final class SectionsTest {
    private static final int ABSOLUTE = 0;

    public static void main(String[] args) {
        codeBehindTheHeader();
        dataBehindCode();
        importsBehindData();
        exportsBehindImports();
        relocationsBehindExports();
        endBehindRelocations();
        emptySections();
        bytesBetweenAreZero();
        partsInOrder();
        partsFromMultiplesOfFour();
        sizeOfTheLastPartWithBytes();
        placesInEmptyParts();
        emptyPartBehindAFullSection();
        greatestImage();
        Expect.end();
    }

    /** Puts so many bytes into a part of as many objects as are needed. */
    private static void spread(ImageForge forge, int part, int count, int value) {
        for (int object = 0; object < 4; object++) {
            Build.bytes(forge, object, part, Math.max(0, Math.min(40, count - 40 * object)), value);
        }
    }

    private static int up(int size) {
        return (size + 63) / 64 * 64;
    }

    /** "five SECTIONS behind 64 bytes of HEADER" */
    private static void codeBehindTheHeader() {
        for (int size : new int[] {0, 1, 160}) {
            ImageForge forge = new ImageForge();
            spread(forge, 0, size, 7);
            forge.link();
            Words.expect("CODE of " + size, forge, 24, 64, size);
        }
    }

    /** "A section begins at the next multiple of 64" */
    private static void dataBehindCode() {
        for (int size : new int[] {0, 1, 63, 64, 65, 127, 128, 129, 160}) {
            ImageForge forge = new ImageForge();
            spread(forge, 0, size, -1);
            Build.bytes(forge, 3, 1, 1, 0x55);
            Expect.same("link() with code of " + size, forge.link(), 128 + up(size));
            Words.expect("CODE and DATA", forge, 24, 64, size, 64 + up(size), 1);
            Words.expect("the data", forge, 64 + up(size), 0x55);
        }
    }

    private static void importsBehindData() {
        for (int size : new int[] {0, 1, 63, 64, 65, 127, 128, 129, 160}) {
            ImageForge forge = new ImageForge();
            spread(forge, 1, size, -1);
            forge.imported(0, 1, 0);
            Expect.same("link() with data of " + size, forge.link(), 128 + up(size));
            Words.expect("DATA and IMPORTS", forge, 32, 64, size, 64 + up(size), 24);
            Words.expect("the imports", forge, 64 + up(size), 2, 64 + up(size) + 16);
        }
    }

    private static void exportsBehindImports() {
        for (int names = 10; names <= 12; names++) {
            ImageForge forge = new ImageForge();
            for (int name = 1; name <= names; name++) {
                forge.imported(name, 2, name);
            }
            forge.define(0, 0, 0, 0);
            forge.exported(0, true);
            int size = 20 + 4 * names;
            Expect.same("link() with imports of " + size, forge.link(), names == 12 ? 256 : 192);
            Words.expect("IMPORTS and EXPORTS", forge, 40, 64, size, names == 12 ? 192 : 128, 12);
            Words.expect("the exports", forge, 64 + up(size), 1, 0, 64);
        }
    }

    private static void relocationsBehindExports() {
        for (int names = 7; names <= 8; names++) {
            ImageForge forge = Build.withCode(4);
            for (int name = 0; name < names; name++) {
                forge.define(name / 4, name, 0, 0);
                forge.exported(name, true);
            }
            forge.refer(0, 0, 0, ABSOLUTE, 0);
            Expect.same("link() with " + names + " exports", forge.link(), names == 7 ? 256 : 320);
            Words.expect("EXPORTS and RELOCATIONS", forge, 48, 128, 4 + 8 * names, names == 7 ? 192 : 256, 12);
            Words.expect("the relocations", forge, names == 7 ? 192 : 256, 64, 12, 0x3000);
        }
    }

    /** "the image ends at the first multiple of 64 behind the last one" */
    private static void endBehindRelocations() {
        ImageForge forge = new ImageForge();
        Build.bytes(forge, 0, 0, 40, 0);
        Build.bytes(forge, 1, 0, 24, 0);
        Build.bytes(forge, 1, 1, 16, 0);
        Build.bytes(forge, 2, 1, 40, 0);
        Build.bytes(forge, 3, 1, 4, 0);
        forge.define(0, 0, 0, 0);
        Expect.same("without relocations", forge.link(), 192);
        Words.expect("the image's size", forge, 12, 192);
        for (int i = 0; i < 8; i++) {
            forge.refer(0, 0, 4 * i, ABSOLUTE, 0);
            forge.refer(1, i / 4, i % 4 * 4, ABSOLUTE, 0);
            forge.refer(2, 1, 4 * i, ABSOLUTE, 0);
        }
        Expect.same("with relocations of 64", forge.link(), 256);
        Words.expect("relocations of 64", forge, 56, 192, 64);
        Expect.same("the image's last byte", forge.image(255), 0x30);
        forge.refer(3, 1, 0, ABSOLUTE, 0);
        Expect.same("with relocations of 68", forge.link(), 320);
        Words.expect("relocations of 68", forge, 56, 192, 68);
        Words.expect("the image's size", forge, 12, 320);
        Expect.noSuchElement("the byte behind it", () -> forge.image(320));
    }

    /** "(also an empty one, where the one behind it begins, too)": each choice of empty sections. */
    private static void emptySections() {
        for (int some = 0; some < 32; some++) {
            boolean hasWord = (some & 3) != 0;
            if ((some & 16) != 0 && !hasWord) {
                continue;
            }
            ImageForge forge = new ImageForge();
            forge.define(3, 9, 1, 0);
            Build.bytes(forge, 0, 0, (some & 1) * 4, 0);
            Build.bytes(forge, 0, 1, (some >> 1 & 1) * 4, 0);
            if ((some & 4) != 0) {
                forge.imported(1, 0, 0);
            }
            forge.exported(9, (some & 8) != 0);
            if ((some & 16) != 0) {
                forge.refer(0, (some & 1) != 0 ? 0 : 1, 0, ABSOLUTE, 9);
            }
            int end = forge.link();
            int[] sizes = {4, 4, 24, 12, 12};
            int begin = 64;
            for (int section = 0; section < 5; section++) {
                int size = (some >> section & 1) * sizes[section];
                Words.expect("section " + section + " of " + some, forge, 24 + 8 * section, begin, size);
                begin += up(size);
            }
            Expect.same("the end of " + some, end, begin);
            Words.expect("the size of " + some, forge, 12, begin);
        }
    }

    /** "all bytes between are 0" (also those that an image before had there) */
    private static void bytesBetweenAreZero() {
        ImageForge forge = new ImageForge();
        Build.bytes(forge, 0, 0, 5, -1);
        Build.bytes(forge, 2, 0, 2, -1);
        Build.bytes(forge, 1, 1, 3, -1);
        for (int name = 0; name < 12; name++) {
            forge.imported(name, name % 4, 99);
        }
        forge.link();
        for (int name = 0; name < 12; name++) {
            forge.imported(name, -1, 0);
        }
        forge.imported(3, 2, 50);
        forge.define(3, 0, 1, 0);
        forge.exported(0, true);
        Expect.same("link()", forge.link(), 320);
        Words.expect("code", forge, 64, -1, 0xFF, 0xFFFF);
        zeros("behind code", forge, 76, 128);
        Words.expect("data", forge, 128, 0xFFFFFF);
        zeros("behind data", forge, 132, 192);
        Words.expect("imports", forge, 192, 3, 208, 0, 0, Words.ORDINAL + 50, 0);
        zeros("behind imports", forge, 216, 256);
        Words.expect("exports", forge, 256, 1, 0, 132);
        zeros("behind exports", forge, 268, 320);
    }

    private static void zeros(String what, ImageForge forge, int from, int to) {
        for (int i = from; i < to; i++) {
            Expect.same("byte " + i + " " + what, forge.image(i), 0);
        }
    }

    /** "the code parts of the objects, in order"; "DATA likewise." */
    private static void partsInOrder() {
        for (int part = 0; part < 2; part++) {
            ImageForge forge = new ImageForge();
            for (int object = 3; object >= 0; object--) {
                forge.put(object, part, object + 1, 4);
            }
            forge.link();
            Words.expect("the words of part " + part, forge, 64, 1, 2, 3, 4, 0);
            Words.expect("the section of part " + part, forge, 24 + 8 * part, 64, 16);
        }
    }

    /** "each from the next multiple of 4 on that is free in the section" */
    private static void partsFromMultiplesOfFour() {
        for (int part = 0; part < 2; part++) {
            for (int size = 1; size <= 9; size++) {
                ImageForge forge = new ImageForge();
                Build.bytes(forge, 0, part, size, 0);
                Build.bytes(forge, 2, part, size, 0);
                Build.bytes(forge, 3, part, 1, 0x77);
                forge.link();
                int place = 2 * ((size + 3) / 4 * 4);
                Words.expect("the part behind two of " + size, forge, 64 + place, 0x77);
                Words.expect("the section", forge, 24 + 8 * part, 64, place + 1);
            }
        }
    }

    /** "(So its size is that of the last part with bytes, and where it begins.)" */
    private static void sizeOfTheLastPartWithBytes() {
        for (int part = 0; part < 2; part++) {
            for (int object = 0; object < 4; object++) {
                for (int size : new int[] {1, 2, 3, 4, 5, 39, 40}) {
                    ImageForge forge = new ImageForge();
                    Build.bytes(forge, 0, part, 1, 0);
                    Build.bytes(forge, object, part, object == 0 ? size - 1 : size, 0);
                    forge.link();
                    Words.expect("a last part of " + size + " in object " + object, forge, 24 + 8 * part,
                        64, object == 0 ? size : 4 + size);
                }
            }
        }
    }

    /** An empty part lies at a multiple of 4, too, and gives the section no bytes. */
    private static void placesInEmptyParts() {
        ImageForge forge = new ImageForge();
        forge.define(0, 1, 0, 0);
        Build.bytes(forge, 1, 0, 3, 0);
        forge.define(2, 2, 0, 0);
        forge.define(3, 3, 0, 0);
        forge.define(3, 4, 1, 0);
        for (int name = 1; name <= 4; name++) {
            forge.exported(name, true);
        }
        Expect.same("link()", forge.link(), 192);
        Words.expect("sections", forge, 24, 64, 3, 128, 0, 128, 0, 128, 36);
        Words.expect("places in empty parts", forge, 128, 4, 1, 64, 2, 68, 3, 68, 4, 128);
    }

    private static void emptyPartBehindAFullSection() {
        for (int size = 61; size <= 64; size++) {
            ImageForge forge = new ImageForge();
            spread(forge, 0, size, 0);
            Build.bytes(forge, 0, 1, 1, 0);
            forge.define(2, 0, 0, 0);
            forge.link();
            Words.expect("a place behind " + size, forge, 16, 128);
            Words.expect("sections behind " + size, forge, 24, 64, size, 128, 1);
        }
    }

    /** Full parts, the most references that are ABSOLUTE, all names: nothing is cut off. */
    private static void greatestImage() {
        ImageForge forge = new ImageForge();
        for (int object = 0; object < 4; object++) {
            Build.bytes(forge, object, 0, 40, 0);
            Build.bytes(forge, object, 1, 40, 0);
            for (int name = 0; name < 3; name++) {
                forge.define(object, 3 * object + name, 0, 40);
                forge.exported(3 * object + name, true);
            }
            forge.imported(12 + object, object, 99);
            for (int i = 0; i < 4; i++) {
                forge.refer(object, 0, 9 * i, ABSOLUTE, 12 + i);
                forge.refer(object, 1, 9 * i, ABSOLUTE, i);
            }
        }
        Expect.same("link()", forge.link(), 832);
        Words.expect("sections", forge, 24, 64, 160, 256, 160, 448, 72, 576, 100, 704, 8 * 6 + 64 + 4 * 2);
        for (int library = 0; library < 4; library++) {
            forge.offer(library, 99, -library - 1);
        }
        Expect.same("load()", forge.load(1073741824), 0);
        Expect.same("its last byte", forge.at(1073741824 + 831), 0);
        Expect.same("the byte behind it", forge.at(1073741824 + 832), -1);
        Expect.same("the export of name 11", forge.find(11), 1073741824 + 224);
    }
}
