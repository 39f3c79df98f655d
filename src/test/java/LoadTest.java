/** Promises 11 to 13: offer, load, at; and the loader as the document's terms say it. */
public final class LoadTest {
    private static final int FIRST = 1 << 31;

    public static void main(String[] args) {
        offerRefuses();
        offerReplaces();
        loadRefuses();
        loadMovesAndBinds();
        loadReplaces();
        headerFaults();
        checksumFault();
        headerBeforeChecksumBeforeForm();
        sectionFaults();
        relocationFaults();
        relocationsThatMeanNothing();
        relocationsNamedAgain();
        relocationsBeyondTheirSixtyFour();
        relocationOfTheTablesThemselves();
        baseIsTakenFromTheImage();
        importFaults();
        importTableEnds();
        slotsAnywhere();
        importsInOrder();
        refusedLoadLeavesWhatWasLoaded();
        whatIsLoadedStays();
        atTheEdges();
        Expect.end();
    }

    /** Code: one ABSOLUTE word at 64; imports at 128, slots at 144; relocations at 192; 256 bytes. */
    private static ImageForge simple() {
        ImageForge forge = new ImageForge();
        forge.put(0, 0, 10, 4);
        forge.put(0, 0, 0, 4);
        forge.define(0, 0, 0, 4);
        forge.refer(0, 0, 0, 0, 0);
        forge.imported(1, 2, 5);
        forge.imported(2, 2, 6);
        Expect.same("the simple image", forge.link(), 256);
        forge.offer(2, 5, 0x01020304);
        forge.offer(2, 6, -2);
        return forge;
    }

    private static void loads(String what, ImageForge forge, int want) {
        forge.seal();
        Expect.same("load() with " + what, forge.load(8192), want);
    }

    /** Sets one word of the simple image, seals it, loads it. */
    private static void spoiled(String what, int place, int word, int want) {
        ImageForge forge = simple();
        Words.set(forge, place, word);
        loads(what, forge, want);
    }

    private static void offerRefuses() {
        ImageForge forge = new ImageForge();
        for (int bad : new int[] {-1, 4, Integer.MIN_VALUE, Integer.MAX_VALUE}) {
            Expect.illegalArgument("offer of library " + bad, () -> forge.offer(bad, 0, 1));
        }
        for (int bad : new int[] {-1, 100, Integer.MIN_VALUE, Integer.MAX_VALUE}) {
            Expect.illegalArgument("offer of ordinal " + bad, () -> forge.offer(0, bad, 1));
            Expect.illegalArgument("no offer of ordinal " + bad, () -> forge.offer(0, bad, 0));
        }
    }

    private static void offerReplaces() {
        ImageForge forge = simple();
        forge.offer(2, 5, 7);
        loads("another offer", forge, 0);
        Expect.same("the slot", Words.inMemory(forge, 8192 + 144), 7);
        forge.offer(2, 5, 0);
        loads("an offer that is no more", forge, 4);
        forge.offer(1, 5, 8);
        forge.offer(3, 5, 8);
        forge.offer(2, 4, 8);
        loads("offers of others", forge, 4);
        forge.offer(2, 5, 9);
        loads("an offer again", forge, 0);
        Expect.same("the slot", Words.inMemory(forge, 8192 + 144), 9);
        ImageForge edges = new ImageForge();
        edges.imported(0, 0, 0);
        edges.imported(1, 3, 99);
        edges.link();
        edges.offer(0, 0, Integer.MIN_VALUE);
        edges.offer(3, 99, Integer.MAX_VALUE);
        loads("the first and the last ordinal", edges, 0);
        Expect.same("the first slot", Words.inMemory(edges, 8192 + 88), Integer.MIN_VALUE);
        Expect.same("the last slot", Words.inMemory(edges, 8192 + 96), Integer.MAX_VALUE);
    }

    private static void loadRefuses() {
        ImageForge none = new ImageForge();
        Expect.illegalState("load(0) without an image", () -> none.load(0));
        Expect.illegalArgument("load(1) without an image", () -> none.load(1));
        ImageForge forge = simple();
        for (int bad : new int[] {-64, -1, 1, 32, 63, 65, 1073741823, 1073741825, 1073741888,
            Integer.MIN_VALUE, Integer.MAX_VALUE, Integer.MAX_VALUE - 63}) {
            Expect.illegalArgument("load(" + bad + ")", () -> forge.load(bad));
        }
        Expect.same("nothing is loaded", forge.at(0), -1);
        for (int good : new int[] {0, 64, 1073741760, 1073741824}) {
            Expect.same("load(" + good + ")", forge.load(good), 0);
            Expect.same("the word at " + good, Words.inMemory(forge, good + 64), 10 + 68 + good);
        }
    }

    private static void loadMovesAndBinds() {
        ImageForge forge = simple();
        Expect.same("load(8192)", forge.load(8192), 0);
        Expect.same("the ABSOLUTE word", Words.inMemory(forge, 8192 + 64), 10 + 68 + 8192);
        Expect.same("the word behind it", Words.inMemory(forge, 8192 + 68), 0);
        Expect.same("the first slot", Words.inMemory(forge, 8192 + 144), 0x01020304);
        Expect.same("the second slot", Words.inMemory(forge, 8192 + 148), -2);
        Expect.same("the word 0 behind them", Words.inMemory(forge, 8192 + 152), 0);
        Expect.same("the base in the header", Words.inMemory(forge, 8192 + 8), 4096);
        Words.expect("the image stays", forge, 64, 10 + 68 + 4096);
        Words.expect("its slots too", forge, 144, FIRST + 5, FIRST + 6);
        Expect.same("load(0), below the base", forge.load(0), 0);
        Expect.same("the ABSOLUTE word", Words.inMemory(forge, 64), 10 + 68);
        Expect.same("load(4096), at the base", forge.load(4096), 0);
        Expect.same("the ABSOLUTE word", Words.inMemory(forge, 4096 + 64), 10 + 68 + 4096);
    }

    private static void loadReplaces() {
        ImageForge forge = simple();
        forge.load(8192);
        forge.load(64);
        Expect.same("what was loaded before", forge.at(8192), -1);
        Expect.same("what is loaded now", forge.at(64), 77);
        ImageForge shrinking = simple();
        shrinking.load(0);
        shrinking.imported(1, -1, 0);
        shrinking.imported(2, -1, 0);
        Expect.same("a shorter image", shrinking.link(), 192);
        shrinking.load(0);
        Expect.same("its last byte", shrinking.at(191), 0);
        Expect.same("a byte of the longer one", shrinking.at(192), -1);
    }

    private static void headerFaults() {
        for (int i = 0; i < 8; i++) {
            ImageForge forge = simple();
            forge.spoil(i, 128);
            loads("byte " + i + " spoiled", forge, 1);
        }
        spoiled("a size too great", 12, 320, 1);
        spoiled("a size too small", 12, 192, 1);
        spoiled("the upper half of the size spoiled", 12, 256 + 65536, 1);
        spoiled("another place of name 0", 16, -1, 0);
    }

    private static void checksumFault() {
        for (int i = 20; i < 24; i++) {
            ImageForge forge = simple();
            forge.spoil(i, 1);
            Expect.same("load() with a wrong checksum", forge.load(0), 2);
        }
        for (int i : new int[] {8, 19, 24, 64, 144, 255}) {
            ImageForge forge = simple();
            forge.spoil(i, 1);
            Expect.same("load() with byte " + i + " spoiled", forge.load(0), 2);
            forge.spoil(i, 1);
            Expect.same("load() with it as it was", forge.load(0), 0);
        }
    }

    private static void headerBeforeChecksumBeforeForm() {
        ImageForge forge = simple();
        forge.offer(2, 5, 0);
        Words.set(forge, 24, -1);
        forge.spoil(0, 1);
        Expect.same("all wrong", forge.load(0), 1);
        forge.spoil(0, 1);
        Expect.same("all but the header wrong", forge.load(0), 2);
        forge.seal();
        Expect.same("a section and an offer wrong", forge.load(0), 3);
        Words.set(forge, 24, 64);
        forge.seal();
        Expect.same("an offer wrong", forge.load(0), 4);
    }

    private static void sectionFaults() {
        for (int section = 0; section < 5; section++) {
            int at = 24 + 8 * section;
            String name = "section " + section;
            spoiled(name + " below 0", at, -64, 3);
            spoiled(name + " of a size below 0", at + 4, -1, 3);
            spoiled(name + " too long", at + 4, 257, 3);
            spoiled(name + " too long for an int", at + 4, Integer.MAX_VALUE, 3);
            spoiled(name + " too far", at, 1024, 3);
            spoiled(name + " too far for an int", at, Integer.MAX_VALUE, 3);
        }
        spoiled("code up to the end", 28, 192, 0);
        spoiled("code over the end", 28, 193, 3);
        spoiled("code not at a multiple", 24, 63, 0);
        spoiled("code from 0 on", 24, 0, 0);
        spoiled("code below 0 by 1", 24, -1, 3);
        ImageForge end = simple();
        Words.set(end, 32, 256);
        loads("an empty section at the end", end, 0);
        Words.set(end, 32, 257);
        loads("an empty section behind the end", end, 3);
    }

    private static void relocationFaults() {
        spoiled("a section of 1 byte", 60, 1, 3);
        spoiled("a section of 7 bytes", 60, 7, 3);
        spoiled("7 bytes behind a block", 60, 19, 3);
        spoiled("8 bytes behind a block that say 0", 60, 20, 3);
        spoiled("a block of 0", 196, 0, 3);
        spoiled("a block of 7", 196, 7, 3);
        spoiled("a block below 0", 196, -2, 3);
        spoiled("an odd block", 196, 11, 3);
        spoiled("a block longer than the section", 196, 14, 3);
        spoiled("a block of a great size", 196, Integer.MAX_VALUE - 1, 3);
        spoiled("a multiple below 0", 192, -64, 3);
        spoiled("no multiple", 192, 96, 3);
        spoiled("a great multiple", 192, 0x7FFFFFC0, 3);
        for (int mark = 0; mark < 16; mark++) {
            spoiled("an entry of upper bits " + mark, 200, mark << 12, mark == 0 || mark == 3 ? 0 : 3);
            spoiled("a second entry of upper bits " + mark, 200, mark << 28 | 0x3000, mark == 0 || mark == 3 ? 0 : 3);
        }
        spoiled("the last word of the image", 200, 0x3000 + 188, 0);
        spoiled("a word over the end of the image", 200, 0x3000 + 189, 3);
        spoiled("a word behind the image", 200, 0x3FFF, 3);
        ImageForge wrapping = simple();
        Words.set(wrapping, 192, 0x7FFFFFC0);
        Words.set(wrapping, 200, 0x3040);
        loads("a place beyond every int", wrapping, 3);
    }

    private static void relocationsThatMeanNothing() {
        ImageForge forge = simple();
        Words.set(forge, 192, 0x7FFFFFC0);
        Words.set(forge, 200, 0x0FFF0001);
        loads("entries that mean nothing", forge, 0);
        Expect.same("the word stays", Words.inMemory(forge, 8192 + 64), 10 + 68 + 4096);
        ImageForge blocks = simple();
        Words.set(blocks, 60, 20);
        Words.set(blocks, 196, 8);
        Words.set(blocks, 200, 64);
        Words.set(blocks, 204, 12);
        Words.set(blocks, 208, 0x3004);
        loads("a block without entries and another one", blocks, 0);
        Expect.same("the word of the other block", Words.inMemory(blocks, 8192 + 68), 4096);
        Expect.same("the first word stays", Words.inMemory(blocks, 8192 + 64), 10 + 68 + 4096);
        Words.set(blocks, 200, 4096);
        Words.set(blocks, 208, 0);
        loads("a block without entries before a great multiple", blocks, 0);
        ImageForge alone = simple();
        Words.set(alone, 60, 8);
        Words.set(alone, 196, 8);
        loads("a block without entries alone", alone, 0);
        ImageForge noMultiple = simple();
        Words.set(noMultiple, 196, 8);
        Words.set(noMultiple, 60, 8);
        Words.set(noMultiple, 192, 65);
        loads("a block without entries and no multiple", noMultiple, 3);
        ImageForge noBlock = simple();
        Words.set(noBlock, 60, 0);
        loads("no relocations", noBlock, 0);
        Expect.same("the word stays", Words.inMemory(noBlock, 8192 + 64), 10 + 68 + 4096);
        ImageForge oneEntry = simple();
        Words.set(oneEntry, 60, 10);
        Words.set(oneEntry, 196, 10);
        loads("a block with one entry", oneEntry, 0);
        Expect.same("its word", Words.inMemory(oneEntry, 8192 + 64), 10 + 68 + 8192);
    }

    private static void relocationsNamedAgain() {
        ImageForge forge = simple();
        Words.set(forge, 200, 0x30003000);
        loads("a word named twice", forge, 0);
        Expect.same("added twice", Words.inMemory(forge, 8192 + 64), 10 + 68 + 4096 + 2 * 4096);
        ImageForge overlapping = simple();
        Words.set(overlapping, 64, 0x00FFF000);
        Words.set(overlapping, 200, 0x30013000);
        loads("words that overlap", overlapping, 0);
        Expect.same("the first byte", overlapping.at(8192 + 64), 0);
        Expect.same("the words", Words.inMemory(overlapping, 8192 + 65), 0x00010000 + 4096);
    }

    private static void relocationsBeyondTheirSixtyFour() {
        ImageForge forge = simple();
        Words.set(forge, 192, 0);
        Words.set(forge, 200, 0x3000 + 68);
        loads("an entry beyond its 64", forge, 0);
        Expect.same("the word", Words.inMemory(forge, 8192 + 68), 4096);
        ImageForge sum = simple();
        Words.set(sum, 200, 0x3000 + 64 + 40);
        loads("an entry of the multiple's own bits", sum, 0);
        Expect.same("the sum", Words.inMemory(sum, 8192 + 168), 4096);
        Expect.same("not the bits together", Words.inMemory(sum, 8192 + 104), 0);
    }

    private static void relocationOfTheTablesThemselves() {
        ImageForge block = simple();
        Words.set(block, 192, 192);
        Words.set(block, 200, 0x30083004);
        loads("a block that moves itself", block, 0);
        Expect.same("its bytes", Words.inMemory(block, 8192 + 196), 12 + 4096);
        Expect.same("its entries", Words.inMemory(block, 8192 + 200), 0x30083004 + 4096);
        ImageForge slots = simple();
        Words.set(slots, 192, 128);
        Words.set(slots, 200, 0x30103000 + 4);
        loads("imports that are moved", slots, 0);
        Expect.same("the place of the first slot", Words.inMemory(slots, 8192 + 132), 144 + 4096);
        Expect.same("the slot is what is offered", Words.inMemory(slots, 8192 + 144), 0x01020304);
        ImageForge header = simple();
        Words.set(header, 192, 0);
        Words.set(header, 200, 0x30003000);
        loads("a header whose first word is moved", header, 0);
        Expect.same("the first word", Words.inMemory(header, 8192), 0x5A4D + 2 * 4096);
        Words.set(header, 200, 0x30083028);
        loads("a header that is moved", header, 0);
        Expect.same("the base", Words.inMemory(header, 8192 + 8), 8192);
        Expect.same("the place of the imports", Words.inMemory(header, 8192 + 40), 128 + 4096);
        Expect.same("the slot", Words.inMemory(header, 8192 + 144), 0x01020304);
    }

    private static void baseIsTakenFromTheImage() {
        ImageForge forge = simple();
        Words.set(forge, 8, Integer.MIN_VALUE);
        loads("another base", forge, 0);
        Expect.same("the sum wraps", Words.inMemory(forge, 8192 + 64), 10 + 68 + 4096 + 8192 + Integer.MIN_VALUE);
    }

    private static void importFaults() {
        for (int library : new int[] {-1, 5, 6, 256, Integer.MIN_VALUE, Integer.MAX_VALUE, 65536 * 3}) {
            spoiled("library word " + library, 128, library, 3);
        }
        spoiled("library word 1", 128, 1, 4);
        spoiled("library word 4", 128, 4, 4);
        spoiled("slots below 0", 132, -4, 3);
        spoiled("slots of the least place", 132, Integer.MIN_VALUE, 3);
        spoiled("slots at the end", 132, 256, 3);
        spoiled("slots over the end", 132, 253, 3);
        spoiled("slots of the greatest place", 132, Integer.MAX_VALUE, 3);
        spoiled("slots at the last word, which is 0", 132, 252, 0);
        spoiled("a slot without bit 31", 144, 5, 3);
        spoiled("ordinal 100", 144, FIRST + 100, 3);
        spoiled("ordinal 99", 144, FIRST + 99, 4);
        spoiled("a great ordinal", 144, -1, 3);
        spoiled("a slot with bit 30", 144, FIRST + (1 << 30) + 5, 3);
        spoiled("a second slot without bit 31", 148, 6, 3);
        spoiled("no slot at all", 144, 0, 0);
        ImageForge endless = simple();
        Words.set(endless, 252, FIRST + 5);
        Words.set(endless, 132, 252);
        loads("slots without an end", endless, 3);
    }

    private static void importTableEnds() {
        spoiled("a section of 1 byte", 44, 1, 3);
        spoiled("a section of 4 bytes", 44, 4, 3);
        spoiled("a pair and no end", 44, 8, 3);
        spoiled("a pair and half an end", 44, 12, 3);
        spoiled("a pair and all of an end", 44, 16, 0);
        ImageForge none = simple();
        Words.set(none, 44, 0);
        loads("a section without bytes", none, 0);
        Expect.same("a slot that is not bound", Words.inMemory(none, 8192 + 144), FIRST + 5);
        ImageForge early = simple();
        Words.set(early, 128, 0);
        loads("an end at the beginning", early, 0);
        Expect.same("a slot that is not bound", Words.inMemory(early, 8192 + 144), FIRST + 5);
        ImageForge noise = simple();
        Words.set(noise, 140, -1);
        loads("an end whose second word is not 0", noise, 0);
    }

    private static void slotsAnywhere() {
        ImageForge forge = simple();
        Words.set(forge, 132, 65);
        Words.set(forge, 64, 0);
        Words.set(forge, 65, FIRST + 6);
        forge.spoil(200, 0x14);
        loads("a slot at no multiple of 4, in the code", forge, 0);
        Expect.same("the slot", Words.inMemory(forge, 8192 + 65), -2);
        Expect.same("the old slot", Words.inMemory(forge, 8192 + 144), FIRST + 5);
        ImageForge moved = simple();
        Words.set(moved, 200, 0x3000 + 144 - 64);
        loads("a slot that is moved first", moved, 0);
        Expect.same("the slot is what is offered", Words.inMemory(moved, 8192 + 144), 0x01020304);
        ImageForge shared = new ImageForge();
        shared.imported(0, 0, 1);
        shared.imported(1, 1, 2);
        shared.link();
        shared.offer(0, 1, 10);
        shared.offer(1, 1, 11);
        Words.set(shared, 76, 88);
        loads("a slot of two libraries", shared, 0);
        Expect.same("the last one counts", Words.inMemory(shared, 8192 + 88), 11);
        Expect.same("the slot of none", Words.inMemory(shared, 8192 + 96), FIRST + 2);
    }

    private static void importsInOrder() {
        ImageForge offerFirst = simple();
        offerFirst.offer(2, 5, 0);
        Words.set(offerFirst, 148, 6);
        loads("no offer before a malformed slot", offerFirst, 4);
        ImageForge slotFirst = simple();
        slotFirst.offer(2, 6, 0);
        Words.set(slotFirst, 144, 5);
        loads("a malformed slot before no offer", slotFirst, 3);
        ImageForge libraryLater = simple();
        libraryLater.offer(2, 6, 0);
        Words.set(libraryLater, 136, 9);
        loads("no offer before a malformed pair", libraryLater, 4);
        ImageForge relocationsFirst = simple();
        relocationsFirst.offer(2, 5, 0);
        Words.set(relocationsFirst, 200, 0x1000);
        loads("malformed relocations and no offer", relocationsFirst, 3);
    }

    private static void refusedLoadLeavesWhatWasLoaded() {
        ImageForge forge = simple();
        forge.load(8192);
        Words.set(forge, 68, 99);
        for (int fault = 1; fault <= 4; fault++) {
            if (fault == 1) {
                forge.spoil(0, 1);
            } else if (fault == 2) {
                forge.spoil(0, 1);
            } else if (fault == 3) {
                Words.set(forge, 148, 1);
                forge.seal();
            } else {
                Words.set(forge, 148, FIRST + 7);
                forge.seal();
            }
            Expect.same("load()", forge.load(4096), fault);
            Expect.same("the place", forge.at(8192), 77);
            Expect.same("no other place", forge.at(4096), -1);
            Expect.same("a word of the code", Words.inMemory(forge, 8192 + 68), 0);
            Expect.same("the ABSOLUTE word", Words.inMemory(forge, 8192 + 64), 10 + 68 + 8192);
            Expect.same("a slot", Words.inMemory(forge, 8192 + 148), -2);
        }
        Expect.illegalArgument("load(4097)", () -> forge.load(4097));
        Expect.same("the place", forge.at(8192), 77);
    }

    private static void whatIsLoadedStays() {
        ImageForge forge = simple();
        forge.load(8192);
        forge.spoil(68, 7);
        Expect.same("spoil() is for the image", forge.at(8192 + 68), 0);
        forge.offer(2, 5, 1);
        Expect.same("offer() is for later loads", Words.inMemory(forge, 8192 + 144), 0x01020304);
        forge.put(0, 0, 3, 8);
        forge.link();
        Expect.same("link() is for the image", forge.at(8192 + 72), 0);
        Expect.same("load()", forge.load(64), 0);
        Expect.same("the new image", forge.at(64 + 72), 3);
    }

    private static void atTheEdges() {
        ImageForge forge = simple();
        forge.load(128);
        Expect.same("below", forge.at(127), -1);
        Expect.same("the first byte", forge.at(128), 77);
        Expect.same("a byte is 0 .. 255", forge.at(128 + 148), 254);
        Expect.same("the last byte", forge.at(128 + 255), 0);
        Expect.same("behind", forge.at(128 + 256), -1);
        for (int far : new int[] {0, -1, 128 - 65536, Integer.MIN_VALUE, Integer.MAX_VALUE, Integer.MIN_VALUE + 128}) {
            Expect.same("at(" + far + ")", forge.at(far), -1);
        }
        forge.load(0);
        Expect.same("the byte at 0", forge.at(0), 77);
        Expect.same("the byte at -1", forge.at(-1), -1);
    }
}
