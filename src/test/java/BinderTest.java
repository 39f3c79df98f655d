/**
 * Promise 12, how the loader binds IMPORTS, and that it reads the image as it was. Each test bears
 * the sentence of the document's terms that it holds the program to.
 */
public final class BinderTest {
    private static final int FIRST = Words.ORDINAL;
    private static final int MIN = Integer.MIN_VALUE;
    private static final int MAX = Integer.MAX_VALUE;

    public static void main(String[] args) {
        importsWithoutBytes();
        upToAPairWhoseFirstWordIsZero();
        pairNotAllInTheSection();
        libraryIsNot0To3();
        eachLibrary();
        upToAWordZero();
        slotsBelowZero();
        slotNotAllInTheImage();
        slotWithoutBit31();
        otherBitsAreNot0To99();
        notOffered();
        threeAndFourAsTheyAreComeTo();
        slotsAnywhere();
        slotBecomesWhatIsOffered();
        relocationsAreReadAsTheyWere();
        importsAreReadAsTheyWere();
        baseAndSectionsAreReadAsTheyWere();
        slotsDoNotChangeWhatIsRead();
        Expect.end();
    }

    private static void loads(String what, ImageForge forge, int want) {
        forge.seal();
        Expect.same("load() with " + what, forge.load(8192), want);
    }

    private static void spoiled(String what, int place, int word, int want) {
        ImageForge forge = Build.simple();
        Words.set(forge, place, word);
        loads(what, forge, want);
    }

    /** Pairs of libraries 0 and 1 at 64 and 72, slots at 88 and 96 by ordinals 1 and 2; 128 bytes. */
    private static ImageForge twoLibraries() {
        ImageForge forge = new ImageForge();
        forge.imported(0, 0, 1);
        forge.imported(1, 1, 2);
        Expect.same("two libraries", forge.link(), 128);
        forge.offer(0, 1, 10);
        forge.offer(1, 2, 20);
        return forge;
    }

    /** "if IMPORTS has bytes" */
    private static void importsWithoutBytes() {
        ImageForge forge = Build.simple();
        Words.set(forge, 44, 0);
        Words.set(forge, 128, -1);
        loads("imports without bytes", forge, 0);
        Expect.same("a slot that is not bound", Words.inMemory(forge, 8192 + 144), FIRST + 5);
        Words.set(forge, 44, 1);
        loads("imports of 1 byte", forge, 3);
    }

    /** "pairs of words from its beginning on, up to one whose first word is 0" */
    private static void upToAPairWhoseFirstWordIsZero() {
        ImageForge early = Build.simple();
        Words.set(early, 128, 0);
        loads("an end at the beginning", early, 0);
        Expect.same("a slot that is not bound", Words.inMemory(early, 8192 + 144), FIRST + 5);
        for (int second : new int[] {1, -1, MIN, MAX}) {
            spoiled("an end whose second word is " + second, 140, second, 0);
        }
        ImageForge behind = Build.simple();
        Words.set(behind, 44, 32);
        loads("slots behind the end that would be no pair", behind, 0);
        ImageForge two = twoLibraries();
        Words.set(two, 72, 0);
        loads("one pair of two", two, 0);
        Expect.same("the slot of the first", Words.inMemory(two, 8192 + 88), 10);
        Expect.same("the slot of the second", Words.inMemory(two, 8192 + 96), FIRST + 2);
    }

    /** "one that is not all in the section" */
    private static void pairNotAllInTheSection() {
        for (int size = 1; size < 16; size++) {
            spoiled("a section of " + size, 44, size, 3);
        }
        for (int size = 16; size <= 24; size++) {
            spoiled("a section of " + size, 44, size, 0);
        }
        for (int size = 1; size < 8; size++) {
            ImageForge none = Build.simple();
            Words.set(none, 128, 0);
            Words.set(none, 44, size);
            loads("a first pair that ends the table, of which are there " + size, none, 3);
        }
        ImageForge least = Build.simple();
        Words.set(least, 128, 0);
        Words.set(least, 44, 8);
        loads("a section of an end alone", least, 0);
        ImageForge atTheEnd = Build.simple();
        Words.set(atTheEnd, 40, 252);
        Words.set(atTheEnd, 44, 4);
        loads("the last 4 bytes of the image", atTheEnd, 3);
        Words.set(atTheEnd, 40, 248);
        Words.set(atTheEnd, 44, 8);
        loads("the last 8 bytes of the image", atTheEnd, 0);
        Words.set(atTheEnd, 248, 3);
        Words.set(atTheEnd, 252, 144);
        loads("a pair at the end of the image", atTheEnd, 3);
    }

    /** "a library (less 1) that is not 0 .. 3" */
    private static void libraryIsNot0To3() {
        for (int word : new int[] {-1, 5, 6, 256, 3 * 65536, MIN, MAX, MIN + 3}) {
            spoiled("the library's word " + word, 128, word, 3);
            ImageForge second = twoLibraries();
            Words.set(second, 72, word);
            loads("the second library's word " + word, second, 3);
        }
        spoiled("the library's word 3", 128, 3, 0);
        spoiled("the library's word 1, not offered", 128, 1, 4);
        spoiled("the library's word 4, not offered", 128, 4, 4);
    }

    private static void eachLibrary() {
        for (int library = 0; library < 4; library++) {
            ImageForge forge = Build.simple();
            Words.set(forge, 128, library + 1);
            forge.offer(library, 5, 50 + library);
            forge.offer(library, 6, 60 + library);
            loads("library " + library, forge, 0);
            Expect.same("its first slot", Words.inMemory(forge, 8192 + 144), 50 + library);
            Expect.same("its second slot", Words.inMemory(forge, 8192 + 148), 60 + library);
        }
    }

    /** "slots from the place that the second word says on, up to a word 0" */
    private static void upToAWordZero() {
        ImageForge none = Build.simple();
        Words.set(none, 144, 0);
        loads("no slot at all", none, 0);
        Expect.same("what is behind it", Words.inMemory(none, 8192 + 148), FIRST + 6);
        ImageForge one = Build.simple();
        Words.set(one, 148, 0);
        Words.set(one, 152, 7);
        loads("one slot, and behind the word 0 none", one, 0);
        Expect.same("the slot", Words.inMemory(one, 8192 + 144), 0x01020304);
        ImageForge three = Build.simple();
        Words.set(three, 152, FIRST + 5);
        loads("three slots", three, 0);
        Expect.same("the third", Words.inMemory(three, 8192 + 152), 0x01020304);
        ImageForge second = Build.simple();
        Words.set(second, 132, 148);
        loads("slots from the second on", second, 0);
        Expect.same("the first", Words.inMemory(second, 8192 + 144), FIRST + 5);
        Expect.same("the second", Words.inMemory(second, 8192 + 148), -2);
    }

    /** "one below 0" */
    private static void slotsBelowZero() {
        for (int place : new int[] {-1, -4, -256, MIN, MIN + 144}) {
            spoiled("slots from " + place, 132, place, 3);
        }
        spoiled("slots from 0, where the header's first word is no slot", 132, 0, 3);
        spoiled("slots from 5, the first place where a header may have a word 0", 132, 5, 0);
    }

    /** "or not all in the image" */
    private static void slotNotAllInTheImage() {
        spoiled("slots at the last word, which is 0", 132, 252, 0);
        for (int place : new int[] {253, 254, 255, 256, 257, 260, MAX - 3, MAX}) {
            spoiled("slots from " + place, 132, place, 3);
        }
        ImageForge endless = Build.simple();
        Words.set(endless, 252, FIRST + 5);
        Words.set(endless, 132, 252);
        loads("a slot at the last word, and none behind it", endless, 3);
        Words.set(endless, 248, FIRST + 5);
        Words.set(endless, 252, 0);
        Words.set(endless, 132, 248);
        loads("a slot at the last word but one", endless, 0);
        Expect.same("that slot", Words.inMemory(endless, 8192 + 248), 0x01020304);
    }

    /** "a slot without bit 31" */
    private static void slotWithoutBit31() {
        for (int word : new int[] {1, 5, 99, 100, 1 << 30, MAX}) {
            spoiled("the slot " + word, 144, word, 3);
            spoiled("the second slot " + word, 148, word, 3);
        }
    }

    /** "or whose other bits are not 0 .. 99" */
    private static void otherBitsAreNot0To99() {
        for (int bits : new int[] {100, 101, 128, 256 + 5, 65536 + 5, (1 << 30) + 5, MAX}) {
            spoiled("the slot's other bits " + bits, 144, FIRST + bits, 3);
            spoiled("the second slot's other bits " + bits, 148, FIRST + bits, 3);
        }
        ImageForge edges = Build.simple();
        Words.set(edges, 144, FIRST);
        Words.set(edges, 148, FIRST + 99);
        loads("ordinal 0, not offered", edges, 4);
        edges.offer(2, 0, 1000);
        loads("ordinal 99, not offered", edges, 4);
        edges.offer(2, 99, 1099);
        loads("ordinals 0 and 99", edges, 0);
        Expect.same("the slot of 0", Words.inMemory(edges, 8192 + 144), 1000);
        Expect.same("the slot of 99", Words.inMemory(edges, 8192 + 148), 1099);
    }

    /** "4 a slot whose library does not OFFER that ordinal." */
    private static void notOffered() {
        ImageForge forge = Build.simple();
        forge.offer(2, 5, 0);
        loads("the first slot not offered", forge, 4);
        forge.offer(2, 5, 1);
        forge.offer(2, 6, 0);
        forge.offer(1, 6, 1);
        forge.offer(3, 6, 1);
        loads("the last slot not offered", forge, 4);
        forge.offer(2, 6, 1);
        loads("both offered", forge, 0);
        ImageForge two = twoLibraries();
        two.offer(1, 2, 0);
        two.offer(0, 2, 1);
        loads("the slot of the last library not offered", two, 4);
    }

    /** "(3 and 4 as they are come to.)" */
    private static void threeAndFourAsTheyAreComeTo() {
        ImageForge offerFirst = Build.simple();
        offerFirst.offer(2, 5, 0);
        Words.set(offerFirst, 148, 6);
        loads("no offer before a malformed slot", offerFirst, 4);
        Words.set(offerFirst, 136, 9);
        loads("no offer before a malformed pair", offerFirst, 4);
        Words.set(offerFirst, 44, 8);
        loads("no offer before the section's end", offerFirst, 4);
        ImageForge slotFirst = Build.simple();
        slotFirst.offer(2, 6, 0);
        Words.set(slotFirst, 144, 5);
        loads("a malformed slot before no offer", slotFirst, 3);
        ImageForge pairFirst = twoLibraries();
        pairFirst.offer(1, 2, 0);
        Words.set(pairFirst, 64, 9);
        loads("a malformed pair before no offer", pairFirst, 3);
        ImageForge offerOfTheFirst = twoLibraries();
        offerOfTheFirst.offer(0, 1, 0);
        Words.set(offerOfTheFirst, 72, 9);
        loads("no offer before a second library that is none", offerOfTheFirst, 4);
        Words.set(offerOfTheFirst, 76, -4);
        Words.set(offerOfTheFirst, 72, 2);
        loads("no offer before slots below 0", offerOfTheFirst, 4);
        ImageForge endless = Build.simple();
        Words.set(endless, 132, 252);
        Words.set(endless, 252, FIRST + 9);
        loads("no offer before the image's end", endless, 4);
        ImageForge relocations = Build.simple();
        relocations.offer(2, 5, 0);
        Words.set(relocations, 200, 0x1000);
        loads("malformed relocations before no offer", relocations, 3);
    }

    private static void slotsAnywhere() {
        ImageForge forge = Build.simple();
        Words.set(forge, 132, 65);
        Words.set(forge, 64, 0);
        Words.set(forge, 65, FIRST + 6);
        Words.set(forge, 200, 0x3000 + 20);
        loads("a slot at no multiple of 4, in the code", forge, 0);
        Expect.same("the slot", Words.inMemory(forge, 8192 + 65), -2);
        Expect.same("the byte before it", forge.at(8192 + 64), 0);
        Expect.same("the old slot", Words.inMemory(forge, 8192 + 144), FIRST + 5);
    }

    /** "each slot becomes what the library offers" */
    private static void slotBecomesWhatIsOffered() {
        ImageForge moved = Build.simple();
        Words.set(moved, 200, 0x3000 + 144 - 64);
        loads("a slot that is an entry's word, too", moved, 0);
        Expect.same("the slot is what is offered", Words.inMemory(moved, 8192 + 144), 0x01020304);
        ImageForge half = Build.simple();
        Words.set(half, 200, 0x3000 + 142 - 64);
        loads("a slot that an entry's word overlaps", half, 0);
        Expect.same("the slot is what is offered", Words.inMemory(half, 8192 + 144), 0x01020304);
        Expect.same("the bytes before it", half.at(8192 + 142) + half.at(8192 + 143) * 256, 4096);
        ImageForge shared = twoLibraries();
        shared.offer(1, 1, 11);
        Words.set(shared, 76, 88);
        loads("a slot of two libraries", shared, 0);
        Expect.same("the last one counts", Words.inMemory(shared, 8192 + 88), 11);
        Expect.same("the slot of none", Words.inMemory(shared, 8192 + 96), FIRST + 2);
    }

    /** "All that is read for this is taken from the image as it was linked (and spoiled)" */
    private static void relocationsAreReadAsTheyWere() {
        ImageForge itself = Build.simple();
        Words.set(itself, 192, 192);
        Words.set(itself, 200, 0x30083004);
        loads("a block that moves its own bytes and entries", itself, 0);
        Expect.same("its bytes", Words.inMemory(itself, 8192 + 196), 12 + 4096);
        Expect.same("its entries", Words.inMemory(itself, 8192 + 200), 0x30083004 + 4096);
        ImageForge later = Build.simple();
        Words.set(later, 60, 24);
        Words.set(later, 192, 192);
        Words.set(later, 200, 0x3010300C);
        Words.set(later, 204, 64);
        Words.set(later, 208, 12);
        Words.set(later, 212, 0x3000);
        loads("a block that moves the one behind it", later, 0);
        Expect.same("its multiple", Words.inMemory(later, 8192 + 204), 64 + 4096);
        Expect.same("its bytes", Words.inMemory(later, 8192 + 208), 12 + 4096);
        Expect.same("the word that it names", Words.inMemory(later, 8192 + 64), 10 + 68 + 8192);
        ImageForge entry = Build.simple();
        Words.set(entry, 192, 192);
        Words.set(entry, 200, 0x3020300A);
        loads("an entry that moves the next one", entry, 0);
        Expect.same("the next one", Words.inMemory(entry, 8192 + 202), 0x3020 + 4096);
        Expect.same("what it named", Words.inMemory(entry, 8192 + 224), 4096);
    }

    private static void importsAreReadAsTheyWere() {
        ImageForge pair = Build.simple();
        Words.set(pair, 192, 128);
        Words.set(pair, 200, 0x30043000);
        loads("a pair that is moved", pair, 0);
        Expect.same("its library", Words.inMemory(pair, 8192 + 128), 3 + 4096);
        Expect.same("its place", Words.inMemory(pair, 8192 + 132), 144 + 4096);
        Expect.same("the first slot", Words.inMemory(pair, 8192 + 144), 0x01020304);
        ImageForge ends = Build.simple();
        Words.set(ends, 192, 128);
        Words.set(ends, 200, 0x30183008);
        loads("ends that are moved", ends, 0);
        Expect.same("the end of the pairs", Words.inMemory(ends, 8192 + 136), 4096);
        Expect.same("the end of the slots", Words.inMemory(ends, 8192 + 152), 4096);
        Expect.same("the second slot", Words.inMemory(ends, 8192 + 148), -2);
        ImageForge slots = Build.simple();
        Words.set(slots, 192, 128);
        Words.set(slots, 200, 0x30143010);
        loads("slots that are moved", slots, 0);
        Expect.same("the first slot", Words.inMemory(slots, 8192 + 144), 0x01020304);
        Expect.same("the second slot", Words.inMemory(slots, 8192 + 148), -2);
    }

    private static void baseAndSectionsAreReadAsTheyWere() {
        ImageForge base = Build.simple();
        Words.set(base, 192, 0);
        Words.set(base, 200, 0x30443008);
        loads("a base that is moved", base, 0);
        Expect.same("the base", Words.inMemory(base, 8192 + 8), 8192);
        Expect.same("a word named later", Words.inMemory(base, 8192 + 68), 4096);
        ImageForge sections = Build.simple();
        Words.set(sections, 192, 0);
        Words.set(sections, 200, 0x302C3028);
        loads("imports whose place and size are moved", sections, 0);
        Expect.same("the place of the imports", Words.inMemory(sections, 8192 + 40), 128 + 4096);
        Expect.same("their size", Words.inMemory(sections, 8192 + 44), 28 + 4096);
        Expect.same("the slot", Words.inMemory(sections, 8192 + 144), 0x01020304);
        Words.set(sections, 44, 8);
        loads("imports without an end that only grow when they are moved", sections, 3);
        Words.set(sections, 44, 0);
        loads("imports without bytes that only have some when they are moved", sections, 0);
        Expect.same("a slot that is not bound", Words.inMemory(sections, 8192 + 144), FIRST + 5);
        ImageForge header = Build.simple();
        Words.set(header, 192, 0);
        Words.set(header, 200, 0x300C3000);
        loads("a first word and a size that are moved", header, 0);
        Expect.same("the first word", Words.inMemory(header, 8192), 0x5A4D + 4096);
        Expect.same("the size", Words.inMemory(header, 8192 + 12), 256 + 4096);
    }

    /** "not from what has changed so" */
    private static void slotsDoNotChangeWhatIsRead() {
        ImageForge again = twoLibraries();
        again.offer(0, 1, FIRST + 50);
        again.offer(1, 1, 11);
        Words.set(again, 76, 88);
        loads("a slot that would be another one when it is read again", again, 0);
        Expect.same("the slot", Words.inMemory(again, 8192 + 88), 11);
        ImageForge zero = Build.simple();
        zero.offer(2, 5, -1);
        Words.set(zero, 132, 145);
        Words.set(zero, 144, 0);
        Words.set(zero, 145, FIRST + 5);
        Words.set(zero, 149, FIRST + 6);
        Words.set(zero, 153, 0);
        loads("slots beside one another", zero, 0);
        Expect.same("the first", Words.inMemory(zero, 8192 + 145), -1);
        Expect.same("the second", Words.inMemory(zero, 8192 + 149), -2);
        ImageForge pairs = twoLibraries();
        Words.set(pairs, 68, 76);
        Words.set(pairs, 76, FIRST + 1);
        loads("a slot that is the next pair's place, which is below 0", pairs, 3);
        ImageForge end = twoLibraries();
        Words.set(end, 72, 0);
        Words.set(end, 68, 76);
        Words.set(end, 76, FIRST + 1);
        Words.set(end, 80, 0);
        loads("a slot in the pair that ends the table", end, 0);
        Expect.same("that slot", Words.inMemory(end, 8192 + 76), 10);
    }
}
