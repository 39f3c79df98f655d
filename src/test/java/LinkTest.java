/** Promises 7 and 8: link, image; and the image as the document's terms say it. */
public final class LinkTest {
    public static void main(String[] args) {
        header();
        partsFromMultiplesOfFour();
        emptyParts();
        sectionsFromMultiplesOf64();
        imports();
        references();
        sumsWrap();
        relocations();
        wordOverABoundary();
        checksum();
        greatestImage();
        clashes();
        lacks();
        clashBeforeLack();
        refusedLinkLeavesTheImage();
        linkAgain();
        imageRefuses();
        Expect.end();
    }

    private static void header() {
        ImageForge forge = new ImageForge();
        forge.put(0, 0, 0, 8);
        forge.put(2, 1, 0, 3);
        forge.define(2, 0, 1, 3);
        Expect.same("link()", forge.link(), 192);
        Words.expect("header", forge, 0, 0x5A4D, 5, 4096, 192, 131);
        Words.expect("sections", forge, 24, 64, 8, 128, 3, 192, 0, 192, 0, 192, 0);
        ImageForge other = new ImageForge();
        other.imported(0, 0, 0);
        other.link();
        Words.expect("name 0 imported and not defined", other, 16, 0);
        ImageForge third = new ImageForge();
        third.put(0, 0, 0, 4);
        third.define(0, 1, 0, 2);
        third.link();
        Words.expect("name 0 not defined", third, 16, 0);
    }

    private static void partsFromMultiplesOfFour() {
        ImageForge forge = new ImageForge();
        forge.put(0, 0, 0x11, 1);
        forge.put(1, 0, 0x6655443322L, 5);
        forge.put(3, 0, 0xAA99L, 2);
        forge.put(2, 1, 0x77, 1);
        forge.put(3, 1, 0x88, 1);
        forge.link();
        Words.expect("code", forge, 64, 0x11, 0x55443322, 0x66, 0xAA99, 0);
        Words.expect("data", forge, 128, 0x77, 0x88, 0);
        Words.expect("sections", forge, 24, 64, 14, 128, 5);
    }

    private static void emptyParts() {
        ImageForge forge = new ImageForge();
        forge.define(0, 1, 0, 0);
        forge.put(1, 0, 0, 3);
        forge.define(2, 2, 0, 0);
        forge.define(3, 3, 0, 0);
        forge.define(3, 4, 1, 0);
        for (int name = 1; name <= 4; name++) {
            forge.exported(name, true);
        }
        Expect.same("link()", forge.link(), 192);
        Words.expect("an empty part at the end gives the section no bytes", forge, 24, 64, 3, 128, 0, 128, 0, 128, 36);
        Words.expect("places in empty parts", forge, 128, 4, 1, 64, 2, 68, 3, 68, 4, 128);
        ImageForge full = new ImageForge();
        for (int i = 0; i < 8; i++) {
            full.put(0, 0, 0, 8 - i % 2 * 6);
            full.put(1, 0, 0, i < 4 ? 5 : 1);
        }
        full.define(2, 0, 0, 0);
        full.link();
        Words.expect("an empty part where the next section begins", full, 16, 128, Words.inImage(full, 20), 64, 64, 128, 0);
    }

    private static void sectionsFromMultiplesOf64() {
        ImageForge forge = new ImageForge();
        for (int i = 0; i < 8; i++) {
            forge.put(i / 4, 0, -1, 8);
            forge.put(i / 4, 1, -1, 8);
        }
        Expect.same("both of 64", forge.link(), 192);
        Words.expect("sections of 64", forge, 24, 64, 64, 128, 64, 192, 0, 192, 0, 192, 0);
        forge.put(1, 0, 7, 1);
        Expect.same("code of 65", forge.link(), 256);
        Words.expect("sections of 65 and 64", forge, 24, 64, 65, 192, 64, 256, 0, 256, 0, 256, 0);
        Words.expect("bytes between are 0", forge, 124, -1, 7, 0, 0);
        Words.expect("bytes up to the next section are 0", forge, 188, 0, -1);
        ImageForge third = new ImageForge();
        third.define(0, 0, 0, 0);
        third.exported(0, true);
        Expect.same("exports alone", third.link(), 128);
        Words.expect("empty sections begin where the next one does", third, 24, 64, 0, 64, 0, 64, 0, 64, 12, 128, 0);
    }

    private static void imports() {
        ImageForge forge = new ImageForge();
        forge.imported(9, 3, 1);
        forge.imported(2, 0, 99);
        forge.imported(15, 0, 0);
        forge.imported(4, 3, 2);
        forge.imported(7, 3, 1);
        Expect.same("link()", forge.link(), 128);
        Words.expect("pairs", forge, 64, 1, 88, 4, 100, 0, 0);
        Words.expect("slots of library 0", forge, 88, Words.ORDINAL + 99, Words.ORDINAL, 0);
        Words.expect("slots of library 3", forge, 100,
            Words.ORDINAL + 2, Words.ORDINAL + 1, Words.ORDINAL + 1, 0);
        Words.expect("the section", forge, 40, 64, 52);
    }

    private static void references() {
        ImageForge forge = new ImageForge();
        forge.put(0, 0, 5, 4);
        forge.put(0, 0, 6, 4);
        forge.put(0, 0, 7, 4);
        forge.put(1, 0, 0, 2);
        forge.put(1, 0, 100, 4);
        forge.put(1, 1, -8, 4);
        forge.put(1, 1, 0, 4);
        forge.define(1, 3, 1, 6);
        forge.imported(4, 0, 0);
        forge.imported(5, 0, 0);
        forge.refer(0, 0, 8, 2, 3);
        forge.refer(0, 0, 0, 0, 3);
        forge.refer(0, 0, 4, 1, 3);
        forge.refer(1, 0, 2, 1, 5);
        forge.refer(1, 1, 0, 0, 4);
        forge.refer(1, 1, 4, 2, 5);
        forge.link();
        Words.expect("words of object 0", forge, 64, 5 + 4096 + 134, 6 + 134 - 72, 7 + 134);
        Words.expect("RELATIVE to a slot", forge, 78, 100 + 212 - 82);
        Words.expect("ABSOLUTE and DISTANT to slots", forge, 128, -8 + 4096 + 208, 212);
    }

    private static void sumsWrap() {
        ImageForge forge = new ImageForge();
        forge.put(0, 0, 0x7FFFFFFF, 4);
        forge.put(0, 0, 0x80000000L, 4);
        forge.put(0, 0, -1, 4);
        forge.define(0, 0, 0, 0);
        forge.refer(0, 0, 0, 0, 0);
        forge.refer(0, 0, 4, 1, 0);
        forge.refer(0, 0, 8, 2, 0);
        forge.link();
        Words.expect("sums", forge, 64, 0x7FFFFFFF + 4160, Integer.MIN_VALUE - 8, 63);
    }

    private static void relocations() {
        ImageForge forge = new ImageForge();
        for (int i = 0; i < 5; i++) {
            forge.put(0, 0, 0, 8);
            forge.put(1, 0, 0, 8);
            forge.put(0, 1, 0, 8);
        }
        forge.define(0, 0, 0, 0);
        forge.refer(1, 0, 30, 0, 0);
        forge.refer(1, 0, 12, 0, 0);
        forge.refer(0, 0, 8, 0, 0);
        forge.refer(0, 0, 20, 1, 0);
        forge.refer(0, 0, 1, 0, 0);
        forge.refer(0, 1, 36, 0, 0);
        forge.refer(0, 1, 0, 2, 0);
        forge.link();
        Words.expect("sections", forge, 24, 64, 80, 192, 40, 256, 0, 256, 0, 256, 40);
        Words.expect("a block with an odd number", forge, 256, 64, 16, 0x30083001, 0x3034);
        Words.expect("a block with one", forge, 272, 128, 12, 0x3006);
        Words.expect("a block of data", forge, 284, 192, 12, 0x3024, 0);
        ImageForge even = new ImageForge();
        even.put(0, 0, 0, 8);
        even.define(0, 0, 0, 0);
        even.refer(0, 0, 4, 0, 0);
        even.refer(0, 0, 0, 0, 0);
        even.link();
        Words.expect("a block with an even number", even, 128, 64, 12, 0x30043000, 0);
        Words.expect("its section", even, 56, 128, 12);
    }

    private static void wordOverABoundary() {
        ImageForge forge = new ImageForge();
        for (int i = 0; i < 5; i++) {
            forge.put(0, 0, 0, 8);
            forge.put(1, 0, 0, 8);
        }
        forge.define(0, 0, 0, 3);
        forge.refer(1, 0, 23, 0, 0);
        forge.refer(1, 0, 27, 0, 0);
        forge.link();
        Words.expect("words", forge, 127, 4096 + 67, 4096 + 67);
        Words.expect("blocks", forge, 192, 64, 12, 0x303F, 128, 12, 0x3003, 0);
    }

    private static void checksum() {
        ImageForge forge = new ImageForge();
        forge.link();
        Words.expect("of the empty image", forge, 20, 23117 + 5 + 4096 + 64 + 5 * 64 + 64);
        forge.put(0, 0, -1, 8);
        forge.link();
        int sum = 23117 + 5 + 4096 + 128 + 64 + 8 + 4 * 128 + 4 * 65535;
        Words.expect("carries come back below", forge, 20, sum - 4 * 65535 + 128);
        ImageForge full = new ImageForge();
        full.put(0, 0, 65535 - (23117 + 5 + 4096 + 128 + 64 + 2 + 4 * 128), 2);
        full.link();
        Words.expect("the size is added without a carry", full, 20, 65535 + 128);
    }

    private static void greatestImage() {
        ImageForge forge = new ImageForge();
        for (int object = 0; object < 4; object++) {
            for (int i = 0; i < 5; i++) {
                forge.put(object, 0, 0, 8);
                forge.put(object, 1, 0, 8);
            }
            for (int name = 0; name < 3; name++) {
                forge.define(object, 3 * object + name, 0, 40);
                forge.exported(3 * object + name, true);
            }
            forge.imported(12 + object, object, 99);
            for (int i = 0; i < 4; i++) {
                forge.refer(object, 0, 9 * i, 0, 12 + i);
                forge.refer(object, 1, 9 * i, 0, i);
            }
        }
        Expect.same("link()", forge.link(), 832);
        Words.expect("sections", forge, 24, 64, 160, 256, 160, 448, 72, 576, 100, 704, 8 * 6 + 64 + 4 * 2);
        for (int library = 0; library < 4; library++) {
            forge.offer(library, 99, -library - 1);
        }
        Expect.same("load()", forge.load(1073741824), 0);
        Expect.same("its last byte", forge.at(1073741824 + 831), 0);
        Expect.same("the byte behind it", forge.at(1073741824 + 832), -1);
        Expect.same("the export of name 11", forge.find(11), 1073741824 + 224);
        for (int name = 12; name < 16; name++) {
            forge.imported(name, -1, 0);
        }
        Expect.noSuchElement("names that are meant and imported no more", forge::link);
    }

    private static void clashes() {
        ImageForge twice = new ImageForge();
        twice.define(0, 5, 0, 0);
        twice.define(0, 5, 0, 0);
        Expect.illegalState("a name defined twice in an object", twice::link);
        ImageForge apart = new ImageForge();
        apart.define(0, 15, 0, 0);
        apart.link();
        apart.define(3, 15, 1, 0);
        Expect.illegalState("a name defined in two objects", apart::link);
        ImageForge both = new ImageForge();
        both.define(2, 0, 0, 0);
        both.imported(0, 0, 0);
        Expect.illegalState("a name defined and imported", both::link);
        both.imported(0, -1, 0);
        Expect.same("a name imported no more", both.link(), 64);
    }

    private static void lacks() {
        ImageForge meant = new ImageForge();
        meant.put(3, 1, 0, 4);
        meant.refer(3, 1, 0, 2, 14);
        Expect.noSuchElement("a name that a reference means", meant::link);
        meant.imported(14, 1, 1);
        Expect.same("a name that is imported", meant.link(), 192);
        meant.exported(14, true);
        Expect.noSuchElement("a name exported and imported", meant::link);
        meant.imported(14, -1, 1);
        meant.define(0, 14, 0, 0);
        Expect.same("a name exported and defined", meant.link(), 192);
        ImageForge exported = new ImageForge();
        exported.exported(0, true);
        Expect.noSuchElement("a name that is exported", exported::link);
    }

    private static void clashBeforeLack() {
        ImageForge forge = new ImageForge();
        forge.exported(0, true);
        forge.put(0, 0, 0, 4);
        forge.refer(0, 0, 0, 0, 1);
        forge.define(0, 15, 0, 0);
        forge.imported(15, 0, 0);
        Expect.illegalState("a clash of the last name, a lack of the first", forge::link);
        forge.imported(15, -1, 0);
        forge.define(0, 15, 0, 0);
        Expect.illegalState("a double name and a lack", forge::link);
    }

    private static void refusedLinkLeavesTheImage() {
        ImageForge forge = new ImageForge();
        Expect.noSuchElement("no image yet", () -> forge.image(0));
        forge.exported(0, true);
        Expect.noSuchElement("a lack", forge::link);
        Expect.noSuchElement("still no image", () -> forge.image(0));
        forge.exported(0, false);
        forge.put(0, 0, 0x55, 1);
        forge.link();
        forge.spoil(64, 0x0F);
        forge.put(0, 0, 0x66, 8);
        forge.exported(0, true);
        Expect.noSuchElement("a lack", forge::link);
        Words.expect("the image as it was, with what was spoiled", forge, 64, 0x5A, 0, 0);
        forge.define(0, 0, 0, 0);
        forge.define(0, 0, 0, 0);
        Expect.illegalState("a clash", forge::link);
        Words.expect("the image as it was", forge, 64, 0x5A, 0, 0);
    }

    private static void linkAgain() {
        ImageForge forge = new ImageForge();
        forge.put(0, 0, 0, 8);
        forge.define(0, 0, 0, 0);
        forge.refer(0, 0, 0, 0, 0);
        forge.imported(1, 0, 0);
        Expect.same("link()", forge.link(), 256);
        forge.spoil(70, 255);
        Expect.same("link() again", forge.link(), 256);
        Words.expect("nothing spoiled, nothing added twice", forge, 64, 4160, 0);
        Words.expect("one block again", forge, 192, 64, 12, 0x3000, 0);
        forge.imported(1, -1, 0);
        Expect.same("link() of less", forge.link(), 192);
        Words.expect("no trace of the longer image", forge, 128, 64, 12, 0x3000, 0, 0, 0);
        Expect.noSuchElement("image(192)", () -> forge.image(192));
        ImageForge moving = new ImageForge();
        moving.put(1, 0, 0, 4);
        moving.define(1, 0, 0, 0);
        moving.refer(1, 0, 0, 0, 0);
        moving.link();
        moving.put(0, 0, 0, 8);
        moving.link();
        Words.expect("a word that lies elsewhere now", moving, 128, 64, 12, 0x3008, 0);
    }

    private static void imageRefuses() {
        ImageForge forge = new ImageForge();
        forge.put(0, 0, -1, 1);
        forge.link();
        Expect.same("a byte is 0 .. 255", forge.image(64), 255);
        Expect.same("the last byte", forge.image(127), 0);
        for (int bad : new int[] {-1, 128, Integer.MIN_VALUE, Integer.MAX_VALUE}) {
            Expect.noSuchElement("image(" + bad + ")", () -> forge.image(bad));
        }
    }
}
