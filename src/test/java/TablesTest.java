/**
 * Promise 7, what the image's tables and words are: IMPORTS, EXPORTS, RELOCATIONS, references,
 * header, checksum. Each test bears the sentence of the document's terms that it holds the program to.
 */
public final class TablesTest {
    private static final int ABSOLUTE = 0;
    private static final int RELATIVE = 1;
    private static final int DISTANT = 2;

    public static void main(String[] args) {
        noImports();
        librariesByTheirNumber();
        slotsByNames();
        sixteenImports();
        noExports();
        exportsByNames();
        sixteenExports();
        noRelocations();
        blocksInOrder();
        entriesByPlaces();
        firstAndLastPlaceOfABlock();
        oddAndEvenNumbers();
        wordOverABoundary();
        fullBlocks();
        placeOfAName();
        absoluteSums();
        relativeSums();
        distantSums();
        headerWords();
        placeOfNameZero();
        checksumFolds();
        checksumLeavesItselfOut();
        Expect.end();
    }

    /** "IMPORTS, if some name is imported" */
    private static void noImports() {
        ImageForge forge = Build.linkedCode(4);
        Words.expect("IMPORTS", forge, 40, 128, 0);
        forge.imported(15, 3, 99);
        Expect.same("link() with one import", forge.link(), 192);
        Words.expect("IMPORTS", forge, 40, 128, 24);
        Words.expect("the imports", forge, 128, 4, 144, 0, 0, Words.ORDINAL + 99, 0);
    }

    /** "for each library from which some name is, by its number: two words [...]; then a word 0 and another one" */
    private static void librariesByTheirNumber() {
        for (int some = 1; some < 16; some++) {
            ImageForge forge = new ImageForge();
            for (int library = 3; library >= 0; library--) {
                if ((some >> library & 1) == 1) {
                    forge.imported(9 - library, library, library);
                }
            }
            forge.link();
            int count = Integer.bitCount(some);
            int pair = 64;
            int slot = 72 + 8 * count;
            for (int library = 0; library < 4; library++) {
                if ((some >> library & 1) == 1) {
                    Words.expect("a pair of " + some, forge, pair, library + 1, slot);
                    Words.expect("a slot of " + some, forge, slot, Words.ORDINAL + library, 0);
                    pair += 8;
                    slot += 8;
                }
            }
            Words.expect("the end of the pairs of " + some, forge, pair, 0, 0);
            Words.expect("IMPORTS of " + some, forge, 40, 64, slot - 64);
        }
    }

    /** "a slot for each of its names, by names, a word: its ordinal, with bit 31; and behind these a word 0" */
    private static void slotsByNames() {
        ImageForge forge = new ImageForge();
        forge.imported(9, 3, 1);
        forge.imported(2, 0, 99);
        forge.imported(15, 0, 0);
        forge.imported(4, 3, 2);
        forge.imported(7, 3, 1);
        forge.link();
        Words.expect("pairs", forge, 64, 1, 88, 4, 100, 0, 0);
        Words.expect("slots of library 0", forge, 88, Words.ORDINAL + 99, Words.ORDINAL, 0);
        Words.expect("slots of library 3", forge, 100, Words.ORDINAL + 2, Words.ORDINAL + 1, Words.ORDINAL + 1, 0);
        Words.expect("the section", forge, 40, 64, 52);
    }

    private static void sixteenImports() {
        ImageForge four = new ImageForge();
        ImageForge one = new ImageForge();
        for (int name = 0; name < 16; name++) {
            four.imported(name, name % 4, name);
            one.imported(name, 3, 99 - name);
        }
        Expect.same("link() with four libraries", four.link(), 192);
        Words.expect("its section", four, 40, 64, 120);
        Words.expect("its pairs", four, 64, 1, 104, 2, 124, 3, 144, 4, 164, 0, 0);
        for (int name = 0; name < 16; name++) {
            Words.expect("the slot of name " + name, four, 104 + name % 4 * 20 + name / 4 * 4, Words.ORDINAL + name);
            Words.expect("an end", four, 120 + name % 4 * 20, 0);
        }
        Expect.same("link() with one library", one.link(), 192);
        Words.expect("its section", one, 40, 64, 84);
        Words.expect("its pairs", one, 64, 4, 80, 0, 0);
        for (int name = 0; name < 16; name++) {
            Words.expect("the slot of name " + name, one, 80 + 4 * name, Words.ORDINAL + 99 - name);
        }
        Words.expect("its end", one, 144, 0);
    }

    /** "EXPORTS, if some name is exported" */
    private static void noExports() {
        ImageForge forge = Build.withCode(4);
        forge.define(0, 15, 0, 4);
        Expect.same("link() without an export", forge.link(), 128);
        Words.expect("EXPORTS", forge, 48, 128, 0);
        forge.exported(15, true);
        Expect.same("link() with one", forge.link(), 192);
        Words.expect("EXPORTS", forge, 48, 128, 12);
        Words.expect("the export", forge, 128, 1, 15, 68);
    }

    /** "a word: how many; for each, by names, two words: the name, and its place" */
    private static void exportsByNames() {
        ImageForge forge = Build.withCode(4);
        forge.put(1, 1, 0, 1);
        forge.define(1, 14, 1, 1);
        forge.define(0, 3, 0, 4);
        forge.define(1, 0, 1, 0);
        forge.exported(14, true);
        forge.exported(0, true);
        forge.exported(3, true);
        forge.link();
        Words.expect("the exports", forge, 192, 3, 0, 128, 3, 68, 14, 129, 0);
        Words.expect("the section", forge, 48, 192, 28);
    }

    private static void sixteenExports() {
        ImageForge forge = Build.withCode(40);
        for (int name = 15; name >= 0; name--) {
            forge.define(name / 4, name, 0, name / 4 == 0 ? name : 0);
            forge.exported(name, true);
        }
        Expect.same("link()", forge.link(), 320);
        Words.expect("the section", forge, 48, 128, 132);
        Words.expect("how many", forge, 128, 16);
        for (int name = 0; name < 16; name++) {
            Words.expect("an export", forge, 132 + 8 * name, name, name < 4 ? 64 + name : 104);
        }
    }

    /** "for each multiple of 64 within which some ABSOLUTE word begins" */
    private static void noRelocations() {
        ImageForge forge = Build.withCode(16);
        forge.define(0, 0, 0, 0);
        forge.refer(0, 0, 0, RELATIVE, 0);
        forge.refer(0, 0, 4, DISTANT, 0);
        Expect.same("link() without an ABSOLUTE word", forge.link(), 128);
        Words.expect("RELOCATIONS", forge, 56, 128, 0);
        forge.refer(0, 0, 9, ABSOLUTE, 0);
        Expect.same("link() with one", forge.link(), 192);
        Words.expect("RELOCATIONS", forge, 56, 128, 12);
        Words.expect("the block", forge, 128, 64, 12, 0x3009, 0);
    }

    /** "for each multiple [...], in order, a BLOCK: a word, that multiple; a word, the bytes of the block" */
    private static void blocksInOrder() {
        ImageForge forge = new ImageForge();
        for (int object = 0; object < 4; object++) {
            Build.bytes(forge, object, 0, 40, 0);
            Build.bytes(forge, object, 1, 40, 0);
        }
        forge.define(0, 0, 0, 0);
        forge.refer(3, 1, 36, ABSOLUTE, 0);
        forge.refer(0, 1, 0, ABSOLUTE, 0);
        forge.refer(3, 0, 8, ABSOLUTE, 0);
        forge.refer(0, 0, 4, ABSOLUTE, 0);
        Expect.same("link()", forge.link(), 512);
        Words.expect("sections", forge, 24, 64, 160, 256, 160, 448, 0, 448, 0, 448, 48);
        Words.expect("blocks", forge, 448, 64, 12, 0x3004, 192, 12, 0x3000, 256, 12, 0x3000, 384, 12, 0x301C, 0);
    }

    /** "for each of these words, by places, two bytes (the lower first): its place in the 64, and 12288 more" */
    private static void entriesByPlaces() {
        ImageForge forge = Build.withCode(40);
        Build.bytes(forge, 1, 0, 24, 0);
        forge.define(0, 0, 0, 0);
        forge.refer(1, 0, 12, ABSOLUTE, 0);
        forge.refer(0, 0, 36, ABSOLUTE, 0);
        forge.refer(0, 0, 20, RELATIVE, 0);
        forge.refer(0, 0, 1, ABSOLUTE, 0);
        forge.refer(0, 0, 8, ABSOLUTE, 0);
        forge.link();
        Words.expect("the block", forge, 128, 64, 16, 0x30083001, 0x30343024, 0);
        Words.expect("the section", forge, 56, 128, 16);
    }

    private static void firstAndLastPlaceOfABlock() {
        ImageForge forge = new ImageForge();
        for (int object = 0; object < 4; object++) {
            Build.bytes(forge, object, 0, 40, 0);
        }
        forge.define(0, 0, 0, 0);
        forge.refer(0, 0, 0, ABSOLUTE, 0);
        forge.refer(1, 0, 23, ABSOLUTE, 0);
        forge.refer(3, 0, 7, ABSOLUTE, 0);
        forge.refer(3, 0, 11, ABSOLUTE, 0);
        forge.link();
        Words.expect("blocks", forge, 256, 64, 12, 0x303F3000, 128, 12, 0x303F, 192, 12, 0x3003, 0);
        ImageForge first = Build.withCode(40);
        Build.bytes(first, 1, 0, 40, 0);
        first.define(0, 0, 0, 0);
        first.refer(1, 0, 24, ABSOLUTE, 0);
        first.link();
        Words.expect("a word at a multiple", first, 192, 128, 12, 0x3000, 0);
    }

    /** "and two bytes 0 more, if their number is odd" */
    private static void oddAndEvenNumbers() {
        for (int count = 1; count <= 8; count++) {
            ImageForge forge = Build.withCode(40);
            forge.define(0, 0, 0, 0);
            for (int i = 0; i < count; i++) {
                forge.refer(0, 0, 4 * i, ABSOLUTE, 0);
            }
            forge.link();
            int bytes = 8 + (count + 1) / 2 * 4;
            Words.expect("the section of " + count, forge, 56, 128, bytes);
            Words.expect("the block of " + count, forge, 128, 64, bytes);
            Words.expect("its last entries", forge, 124 + bytes,
                0x3000 + (count - 1) / 2 * 8 + (count % 2 == 1 ? 0 : 0x3004 + (count - 1) / 2 * 8 << 16), 0);
        }
    }

    /** "within which some ABSOLUTE word begins": not where it ends */
    private static void wordOverABoundary() {
        for (int place = 20; place <= 24; place++) {
            ImageForge forge = Build.withCode(40);
            Build.bytes(forge, 1, 0, 40, 0);
            forge.define(0, 0, 0, 3);
            forge.refer(1, 0, place, ABSOLUTE, 0);
            forge.link();
            Words.expect("the word at " + place, forge, 104 + place, 4096 + 67);
            Words.expect("the block", forge, 192, place == 24 ? 128 : 64, 12, place == 24 ? 0x3000 : 0x3028 + place, 0);
            Words.expect("the section", forge, 56, 192, 12);
        }
    }

    private static void fullBlocks() {
        ImageForge forge = Build.withCode(40);
        Build.bytes(forge, 1, 0, 40, 0);
        forge.define(0, 0, 0, 0);
        for (int i = 0; i < 8; i++) {
            forge.refer(0, 0, 8 + 4 * i, ABSOLUTE, 0);
            forge.refer(1, 0, 4 * i, ABSOLUTE, 0);
        }
        forge.link();
        Words.expect("the section", forge, 56, 192, 48);
        Words.expect("the first block", forge, 192, 64, 36,
            0x300C3008, 0x30143010, 0x301C3018, 0x30243020, 0x302C3028, 0x30343030, 0x303C3038);
        Words.expect("the second block", forge, 228, 128, 12, 0x30043000, 0);
    }

    /** "The PLACE of a name is where its definition lies in the image; that of an imported one is its slot." */
    private static void placeOfAName() {
        ImageForge forge = new ImageForge();
        forge.put(0, 0, 5, 4);
        forge.put(0, 0, 6, 4);
        forge.put(0, 0, 7, 4);
        forge.put(1, 0, 0, 2);
        forge.put(1, 0, 100, 4);
        forge.put(1, 1, -8, 4);
        forge.put(1, 1, 0, 4);
        forge.define(1, 3, 1, 6);
        forge.imported(4, 0, 0);
        forge.imported(5, 0, 0);
        forge.refer(0, 0, 8, DISTANT, 3);
        forge.refer(0, 0, 0, ABSOLUTE, 3);
        forge.refer(0, 0, 4, RELATIVE, 3);
        forge.refer(1, 0, 2, RELATIVE, 5);
        forge.refer(1, 1, 0, ABSOLUTE, 4);
        forge.refer(1, 1, 4, DISTANT, 5);
        forge.link();
        Words.expect("words of object 0", forge, 64, 5 + 4096 + 134, 6 + 134 - 72, 7 + 134);
        Words.expect("RELATIVE to a slot", forge, 78, 100 + 212 - 82);
        Words.expect("ABSOLUTE and DISTANT to slots", forge, 128, -8 + 4096 + 208, 212);
    }

    /** A word of code that means the name at 64, the code's beginning; its own place is 68. */
    private static void sum(String what, int kind, int before, int due) {
        ImageForge forge = new ImageForge();
        forge.put(0, 0, -1, 4);
        forge.put(0, 0, before, 4);
        forge.put(0, 0, 0, 4);
        forge.define(0, 0, 0, 0);
        forge.refer(0, 0, 4, kind, 0);
        forge.link();
        Words.expect(what + " from " + before, forge, 64, -1, due, 0);
    }

    /** "(sums wrap): ABSOLUTE: that + 4096 + the place" */
    private static void absoluteSums() {
        sum("ABSOLUTE", ABSOLUTE, 0, 4160);
        sum("ABSOLUTE", ABSOLUTE, -4160, 0);
        sum("ABSOLUTE", ABSOLUTE, -4161, -1);
        sum("ABSOLUTE", ABSOLUTE, -1, 4159);
        sum("ABSOLUTE", ABSOLUTE, Integer.MAX_VALUE - 4160, Integer.MAX_VALUE);
        sum("ABSOLUTE", ABSOLUTE, Integer.MAX_VALUE - 4159, Integer.MIN_VALUE);
        sum("ABSOLUTE", ABSOLUTE, Integer.MAX_VALUE, Integer.MIN_VALUE + 4159);
    }

    /** "(sums wrap) [...] RELATIVE: that + the place - (the word's own place + 4)" */
    private static void relativeSums() {
        sum("RELATIVE", RELATIVE, 0, -8);
        sum("RELATIVE", RELATIVE, 8, 0);
        sum("RELATIVE", RELATIVE, 7, -1);
        sum("RELATIVE", RELATIVE, Integer.MIN_VALUE + 8, Integer.MIN_VALUE);
        sum("RELATIVE", RELATIVE, Integer.MIN_VALUE + 7, Integer.MAX_VALUE);
        sum("RELATIVE", RELATIVE, Integer.MIN_VALUE, Integer.MAX_VALUE - 7);
        ImageForge up = new ImageForge();
        up.put(0, 0, Integer.MAX_VALUE - 3, 4);
        up.put(0, 0, 0, 8);
        up.define(0, 0, 0, 8);
        up.refer(0, 0, 0, RELATIVE, 0);
        up.link();
        Words.expect("RELATIVE up to beyond the greatest", up, 64, Integer.MIN_VALUE, 0);
    }

    /** "(sums wrap) [...] DISTANT: that + the place" */
    private static void distantSums() {
        sum("DISTANT", DISTANT, 0, 64);
        sum("DISTANT", DISTANT, -64, 0);
        sum("DISTANT", DISTANT, -65, -1);
        sum("DISTANT", DISTANT, -1, 63);
        sum("DISTANT", DISTANT, Integer.MAX_VALUE - 64, Integer.MAX_VALUE);
        sum("DISTANT", DISTANT, Integer.MAX_VALUE - 63, Integer.MIN_VALUE);
    }

    /** "HEADER: words: 0 the bytes 77, 90, 0, 0; 1: 5; 2 the base; 3 the image's size; ..." */
    private static void headerWords() {
        ImageForge forge = Build.withCode(8);
        Build.bytes(forge, 2, 1, 3, 0);
        forge.link();
        int[] first = {77, 90, 0, 0};
        for (int i = 0; i < 4; i++) {
            Expect.same("byte " + i, forge.image(i), first[i]);
        }
        Words.expect("words 1 to 4", forge, 4, 5, 4096, 192, 0);
        Words.expect("the sections", forge, 24, 64, 8, 128, 3, 192, 0, 192, 0, 192, 0);
    }

    /** "4 the place of name 0, if it is defined, or else 0" */
    private static void placeOfNameZero() {
        ImageForge defined = Build.withCode(8);
        Build.bytes(defined, 2, 1, 3, 0);
        defined.define(2, 0, 1, 3);
        defined.link();
        Words.expect("name 0 defined", defined, 16, 131);
        ImageForge imported = new ImageForge();
        imported.imported(0, 0, 0);
        imported.link();
        Words.expect("name 0 imported and not defined", imported, 16, 0);
        ImageForge other = Build.withCode(4);
        other.define(0, 1, 0, 2);
        other.link();
        Words.expect("name 1 defined, name 0 not", other, 16, 0);
    }

    /** "s becomes s + them, and then its lower 16 bits + its upper 16 bits; at last s + the image's size" */
    private static void checksumFolds() {
        ImageForge empty = new ImageForge();
        empty.link();
        Words.expect("of the empty image", empty, 20, 23117 + 5 + 4096 + 64 + 5 * 64 + 64);
        int rest = 23117 + 5 + 4096 + 128 + 64 + 8 + 4 * 128;
        summed("up to 65534", 65534 - rest, 0, 65534 + 128);
        summed("up to 65535, no carry", 65535 - rest, 0, 65535 + 128);
        summed("up to 65536, the carry comes back below", 65536 - rest, 0, 1 + 128);
        summed("up to 131070, a carry and all bits", 65535 - rest, 65535, 65535 + 128);
        summed("up to 131071, two carries", 65536 - rest, 65535, 1 + 128);
        ImageForge step = new ImageForge();
        step.put(0, 0, 0xFFFFFFFFL, 4);
        step.put(0, 0, 2 * 65536 + 65535 - 2 * 65535 - rest, 4);
        step.link();
        Words.expect("a carry at each step, not at the end alone", step, 20, 2 + 128);
    }

    private static void summed(String what, int half, int second, int due) {
        ImageForge forge = new ImageForge();
        forge.put(0, 0, half, 2);
        forge.put(0, 0, second, 6);
        forge.link();
        Words.expect("the checksum " + what, forge, 20, due);
    }

    /** "but those of the checksum itself" */
    private static void checksumLeavesItselfOut() {
        ImageForge forge = Build.linkedCode(4);
        int sum = Words.inImage(forge, 20);
        for (int i = 20; i < 24; i++) {
            forge.spoil(i, 0xFF);
            Expect.same("the checksum's own byte " + i, forge.seal(), sum);
        }
        int[] more = {1, 256};
        for (int i : new int[] {18, 19, 24, 25}) {
            forge.spoil(i, forge.image(i) ^ forge.image(i) + 1);
            Expect.same("the byte beside them, " + i, forge.seal(), sum + more[i % 2]);
            sum += more[i % 2];
        }
    }
}
