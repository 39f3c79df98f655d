/**
 * Promise 12, what the loader looks at, in its order. Each test bears the sentence of the
 * document's terms that it holds the program to.
 */
public final class LoaderTest {
    private static final int MIN = Integer.MIN_VALUE;
    private static final int MAX = Integer.MAX_VALUE;

    public static void main(String[] args) {
        firstWord();
        secondWord();
        fourthWord();
        wordsThatAreNotLookedAt();
        checksum();
        firstOfTheseCounts();
        sectionBeginsBelowZero();
        sectionSizeBelowZero();
        sectionBeyondTheImage();
        sectionsThatOverlap();
        noRelocations();
        fewerThanEightBytes();
        blockOfLessThanEight();
        oddBlock();
        blockOfMoreThanThereAre();
        multipleBelowZero();
        noMultipleOf64();
        upperBitsOfAnEntry();
        placeIsNotLookedAt();
        wordNotAllInTheImage();
        placeIsTheMultipleAndTheLowerBits();
        sectionAtAnOddPlace();
        addedAgain();
        addressLessBaseWraps();
        Expect.end();
    }

    private static void loads(String what, ImageForge forge, int want) {
        forge.seal();
        Expect.same("load() with " + what, forge.load(8192), want);
    }

    /** Sets one word of the simple image, seals it, loads it. */
    private static void spoiled(String what, int place, int word, int want) {
        ImageForge forge = Build.simple();
        Words.set(forge, place, word);
        loads(what, forge, want);
    }

    /** "1 the first word is not that of word 0" */
    private static void firstWord() {
        for (int bit = 0; bit < 32; bit++) {
            spoiled("bit " + bit + " of the first word", 0, 0x5A4D ^ 1 << bit, 1);
        }
    }

    /** "or the second not 5" */
    private static void secondWord() {
        for (int word : new int[] {4, 6, 0, -5, 5 + 256, 5 + 65536, 5 + MIN}) {
            spoiled("the second word " + word, 4, word, 1);
        }
    }

    /** "or the fourth not how many bytes there are" */
    private static void fourthWord() {
        for (int word : new int[] {255, 257, 192, 320, 0, -256, 256 + 65536, 256 + MIN}) {
            spoiled("the fourth word " + word, 12, word, 1);
        }
    }

    private static void wordsThatAreNotLookedAt() {
        for (int word : new int[] {0, -1, MIN, MAX}) {
            spoiled("the third word, the base, " + word, 8, word, 0);
            spoiled("the fifth word, the place of name 0, " + word, 16, word, 0);
        }
    }

    /** "2 the checksum is not right" */
    private static void checksum() {
        for (int bit = 0; bit < 32; bit++) {
            ImageForge forge = Build.simple();
            forge.spoil(20 + bit / 8, 1 << bit % 8);
            Expect.same("load() with bit " + bit + " of the checksum", forge.load(0), 2);
        }
        for (int i : new int[] {8, 16, 19, 24, 63, 64, 127, 128, 144, 192, 255}) {
            ImageForge forge = Build.simple();
            forge.spoil(i, 1);
            Expect.same("load() with byte " + i + " spoiled", forge.load(0), 2);
            forge.spoil(i, 1);
            Expect.same("load() with it as it was", forge.load(0), 0);
        }
        ImageForge ones = Build.simple();
        ones.spoil(68, 0xFF);
        ones.spoil(69, 0xFF);
        Expect.same("load() with two bytes 255, which add up to nothing", ones.load(0), 0);
    }

    /** "the first of these counts" */
    private static void firstOfTheseCounts() {
        ImageForge forge = Build.simple();
        forge.offer(2, 5, 0);
        Words.set(forge, 24, -1);
        for (int i : new int[] {0, 4, 12}) {
            forge.spoil(i, 1);
            Expect.same("all wrong", forge.load(0), 1);
            forge.spoil(i, 1);
        }
        Expect.same("all but the header wrong", forge.load(0), 2);
        forge.seal();
        Expect.same("a section and an offer wrong", forge.load(0), 3);
        Words.set(forge, 24, 64);
        forge.seal();
        Expect.same("an offer wrong", forge.load(0), 4);
        Words.set(forge, 200, 0x1000);
        forge.seal();
        Expect.same("relocations and an offer wrong", forge.load(0), 3);
    }

    /** "a section that begins below 0" */
    private static void sectionBeginsBelowZero() {
        for (int section = 0; section < 5; section++) {
            for (int begin : new int[] {-1, -64, MIN}) {
                ImageForge forge = Build.simple();
                Words.set(forge, 24 + 8 * section, begin);
                loads("section " + section + " from " + begin, forge, 3);
                Words.set(forge, 28 + 8 * section, 0);
                loads("empty section " + section + " from " + begin, forge, 3);
                Words.set(forge, 28 + 8 * section, 64);
                loads("section " + section + " of 64 from " + begin, forge, 3);
            }
            ImageForge first = Build.simple();
            Words.set(first, 24 + 8 * section, 0);
            Words.set(first, 28 + 8 * section, 0);
            loads("empty section " + section + " from 0", first, 0);
        }
        spoiled("code from 0 on", 24, 0, 0);
    }

    /** "or has a size below 0" */
    private static void sectionSizeBelowZero() {
        for (int section = 0; section < 5; section++) {
            for (int size : new int[] {-1, -8, -64, MIN}) {
                spoiled("section " + section + " of " + size, 28 + 8 * section, size, 3);
            }
            spoiled("section " + section + " of 0", 28 + 8 * section, 0, 0);
        }
    }

    /** "or that goes beyond the image" */
    private static void sectionBeyondTheImage() {
        for (int section = 0; section < 5; section++) {
            int at = 24 + 8 * section;
            String name = "section " + section;
            int begin = Words.inImage(Build.simple(), at);
            spoiled(name + " longer by 1 than the image", at + 4, 257 - begin, 3);
            spoiled(name + " of the greatest size", at + 4, MAX, 3);
            spoiled(name + " from the greatest place", at, MAX, 3);
            ImageForge both = Build.simple();
            Words.set(both, at, MAX);
            Words.set(both, at + 4, MAX);
            loads(name + " whose end is beyond every int", both, 3);
            Words.set(both, at, 1);
            loads(name + " whose end is just beyond every int", both, 3);
            ImageForge end = Build.simple();
            Words.set(end, at, 256);
            Words.set(end, at + 4, 0);
            loads(name + ", empty, at the end", end, 0);
            Words.set(end, at, 257);
            loads(name + ", empty, behind the end", end, 3);
            Words.set(end, at, 256);
            Words.set(end, at + 4, 1);
            loads(name + " of 1 at the end", end, 3);
        }
        for (int section : new int[] {0, 1, 3}) {
            ImageForge all = Build.simple();
            Words.set(all, 24 + 8 * section, 0);
            Words.set(all, 28 + 8 * section, 256);
            loads("section " + section + " of the whole image", all, 0);
            Words.set(all, 28 + 8 * section, 257);
            loads("section " + section + " of one byte more", all, 3);
        }
        ImageForge imports = Build.simple();
        Words.set(imports, 44, 128);
        loads("imports up to the end", imports, 0);
        ImageForge relocations = Build.simple();
        Words.set(relocations, 60, 64);
        Words.set(relocations, 196, 64);
        loads("relocations up to the end", relocations, 0);
    }

    private static void sectionsThatOverlap() {
        spoiled("code over imports and relocations", 28, 192, 0);
        spoiled("code at no multiple of 64", 24, 63, 0);
        spoiled("data in the header", 32, 1, 0);
    }

    /** "RELOCATIONS, block by block, as long as there are bytes" */
    private static void noRelocations() {
        ImageForge forge = Build.simple();
        Words.set(forge, 60, 0);
        Words.set(forge, 192, -1);
        Words.set(forge, 196, -1);
        loads("no relocations", forge, 0);
        Expect.same("the word stays", Words.inMemory(forge, 8192 + 64), 10 + 68 + 4096);
        ImageForge two = twoBlocks(12, 12);
        loads("two blocks", two, 0);
        Expect.same("the word of the first", Words.inMemory(two, 8192 + 64), 10 + 68 + 8192);
        Expect.same("the word of the second", Words.inMemory(two, 8192 + 68), 4096);
        Words.set(two, 60, 12);
        loads("a second block behind the section", two, 0);
        Expect.same("its word stays", Words.inMemory(two, 8192 + 68), 0);
    }

    /** The simple image with a second block behind the first: the word at 68. */
    private static ImageForge twoBlocks(int firstBytes, int secondBytes) {
        ImageForge forge = Build.simple();
        Words.set(forge, 60, firstBytes + secondBytes);
        Words.set(forge, 196, firstBytes);
        Words.set(forge, 192 + firstBytes, 0);
        Words.set(forge, 196 + firstBytes, secondBytes);
        Words.set(forge, 200 + firstBytes, 0x3000 + 68);
        return forge;
    }

    /** "fewer than 8" */
    private static void fewerThanEightBytes() {
        for (int size = 1; size <= 7; size++) {
            spoiled("a section of " + size, 60, size, 3);
            ImageForge behind = twoBlocks(12, 12);
            Words.set(behind, 60, 12 + size);
            Words.set(behind, 208, size);
            loads(size + " bytes behind a block", behind, 3);
        }
        ImageForge eight = Build.simple();
        Words.set(eight, 60, 8);
        Words.set(eight, 196, 8);
        loads("a section of 8", eight, 0);
        Expect.same("a block without entries", Words.inMemory(eight, 8192 + 64), 10 + 68 + 4096);
        loads("8 bytes behind a block", twoBlocks(12, 8), 0);
        ImageForge atTheEnd = Build.simple();
        Words.set(atTheEnd, 56, 252);
        Words.set(atTheEnd, 60, 4);
        loads("the last 4 bytes of the image", atTheEnd, 3);
        Words.set(atTheEnd, 56, 248);
        Words.set(atTheEnd, 60, 8);
        Words.set(atTheEnd, 252, 8);
        loads("the last 8 bytes of the image", atTheEnd, 0);
    }

    /** "a block's bytes less than 8" */
    private static void blockOfLessThanEight() {
        for (int bytes : new int[] {0, 1, 2, 4, 6, 7, -1, -2, -8, MIN}) {
            spoiled("a block of " + bytes, 196, bytes, 3);
            ImageForge second = twoBlocks(12, 12);
            Words.set(second, 208, bytes);
            loads("a second block of " + bytes, second, 3);
        }
        ImageForge least = twoBlocks(8, 12);
        loads("a block of 8 and another one", least, 0);
        Expect.same("the word that no entry names", Words.inMemory(least, 8192 + 64), 10 + 68 + 4096);
        Expect.same("the word of the other block", Words.inMemory(least, 8192 + 68), 4096);
    }

    /** "odd" */
    private static void oddBlock() {
        for (int bytes : new int[] {9, 11}) {
            spoiled("a block of " + bytes + " in 12", 196, bytes, 3);
            ImageForge all = Build.simple();
            Words.set(all, 60, bytes);
            Words.set(all, 196, bytes);
            loads("a section and a block of " + bytes, all, 3);
        }
        ImageForge one = Build.simple();
        Words.set(one, 60, 10);
        Words.set(one, 196, 10);
        loads("a block of 10", one, 0);
        Expect.same("the word of its one entry", Words.inMemory(one, 8192 + 64), 10 + 68 + 8192);
    }

    /** "or more than there are" */
    private static void blockOfMoreThanThereAre() {
        for (int bytes : new int[] {14, 16, 64, 66, 1 << 30, MAX - 1}) {
            spoiled("a block of " + bytes + " in 12", 196, bytes, 3);
            ImageForge second = twoBlocks(12, 12);
            Words.set(second, 208, bytes);
            loads("a second block of " + bytes + " in 12", second, 3);
        }
        spoiled("a block of 12 in 10", 60, 10, 3);
        spoiled("a block of 12 in 11", 60, 11, 3);
        spoiled("a block of 12 in 12", 196, 12, 0);
    }

    /** "a multiple that is below 0" */
    private static void multipleBelowZero() {
        for (int multiple : new int[] {-64, -128, MIN, -1}) {
            spoiled("the multiple " + multiple, 192, multiple, 3);
            ImageForge nothing = Build.simple();
            Words.set(nothing, 192, multiple);
            Words.set(nothing, 200, 0);
            loads("the multiple " + multiple + " of entries that mean nothing", nothing, 3);
            ImageForge inside = Build.simple();
            Words.set(inside, 192, multiple);
            Words.set(inside, 200, 0x3000 + 128);
            loads("the multiple " + multiple + " of an entry of 128", inside, 3);
        }
        spoiled("the multiple 0", 192, 0, 0);
    }

    /** "or not a multiple of 64" */
    private static void noMultipleOf64() {
        for (int multiple : new int[] {1, 2, 4, 8, 16, 32, 63, 65, 96, 127}) {
            spoiled("the multiple " + multiple, 192, multiple, 3);
            ImageForge none = Build.simple();
            Words.set(none, 60, 8);
            Words.set(none, 196, 8);
            Words.set(none, 192, multiple);
            loads("the multiple " + multiple + " without entries", none, 3);
        }
        spoiled("the multiple 128", 192, 128, 0);
        spoiled("the multiple 192", 192, 192, 0);
    }

    /** "an entry whose upper 4 bits are neither 0 [...] nor 3" */
    private static void upperBitsOfAnEntry() {
        for (int bits = 0; bits < 16; bits++) {
            int want = bits == 0 || bits == 3 ? 0 : 3;
            spoiled("an entry of upper bits " + bits, 200, bits << 12, want);
            spoiled("an entry of upper bits " + bits + " and lower ones", 200, bits << 12 | 4, want);
            spoiled("a second entry of upper bits " + bits, 200, bits << 28 | 0x3000, want);
        }
    }

    /** "(it means nothing, its place is not looked at)" */
    private static void placeIsNotLookedAt() {
        ImageForge forge = Build.simple();
        Words.set(forge, 200, 0x0FFF0000);
        loads("entries that mean nothing", forge, 0);
        Expect.same("the word stays", Words.inMemory(forge, 8192 + 64), 10 + 68 + 4096);
        Words.set(forge, 192, 0x7FFFFFC0);
        Words.set(forge, 200, 0x0FFF0001);
        loads("entries that mean nothing beyond the image", forge, 0);
        ImageForge before = Build.simple();
        Words.set(before, 200, 0x30000000);
        loads("an entry that means nothing before one that does", before, 0);
        Expect.same("the word is moved", Words.inMemory(before, 8192 + 64), 10 + 68 + 8192);
        ImageForge empty = Build.simple();
        Words.set(empty, 60, 8);
        Words.set(empty, 196, 8);
        Words.set(empty, 192, 0x7FFFFFC0);
        loads("the greatest multiple without entries", empty, 0);
    }

    /** "or are 3 and of whose place [...] the word is not all in the image" */
    private static void wordNotAllInTheImage() {
        spoiled("the last word of the image", 200, 0x3000 + 188, 0);
        for (int over = 189; over <= 192; over++) {
            spoiled("a word that ends at " + (64 + over + 4), 200, 0x3000 + over, 3);
        }
        spoiled("the greatest entry", 200, 0x3FFF, 3);
        ImageForge far = Build.simple();
        Words.set(far, 192, 256);
        loads("a multiple at the end", far, 3);
        Words.set(far, 192, 0x7FFFFFC0);
        loads("the greatest multiple", far, 3);
        Words.set(far, 200, 0x3040);
        loads("a place just beyond every int", far, 3);
        Words.set(far, 200, 0x3FFF);
        loads("the greatest place", far, 3);
        ImageForge last = Build.simple();
        Words.set(last, 192, 192);
        Words.set(last, 200, 0x3000 + 60);
        loads("the last word of the image in its own 64", last, 0);
        Expect.same("that word", Words.inMemory(last, 8192 + 252), 4096);
        Words.set(last, 200, 0x3000 + 61);
        loads("a byte later", last, 3);
        ImageForge first = Build.simple();
        Words.set(first, 192, 0);
        loads("the first word of the image", first, 0);
        Expect.same("that word", Words.inMemory(first, 8192), 0x5A4D + 4096);
    }

    /** "(the multiple and its lower 12 bits)" */
    private static void placeIsTheMultipleAndTheLowerBits() {
        ImageForge forge = Build.simple();
        Words.set(forge, 192, 0);
        Words.set(forge, 200, 0x3000 + 68);
        loads("an entry beyond its 64", forge, 0);
        Expect.same("the word", Words.inMemory(forge, 8192 + 68), 4096);
        ImageForge sum = Build.simple();
        Words.set(sum, 200, 0x3000 + 64 + 40);
        loads("an entry of the multiple's own bits", sum, 0);
        Expect.same("the sum", Words.inMemory(sum, 8192 + 168), 4096);
        Expect.same("not the bits together", Words.inMemory(sum, 8192 + 104), 0);
        ImageForge odd = Build.simple();
        Words.set(odd, 200, 0x3000 + 5);
        loads("a word at no multiple of 4", odd, 0);
        Expect.same("the word", Words.inMemory(odd, 8192 + 69), 4096);
    }

    private static void sectionAtAnOddPlace() {
        ImageForge forge = Build.simple();
        Words.set(forge, 56, 209);
        Words.set(forge, 60, 12);
        Words.set(forge, 209, 64);
        Words.set(forge, 213, 12);
        Words.set(forge, 217, 0x30043000);
        loads("relocations at 209", forge, 0);
        Expect.same("the first word", Words.inMemory(forge, 8192 + 64), 10 + 68 + 8192);
        Expect.same("the second word", Words.inMemory(forge, 8192 + 68), 4096);
    }

    /** "address - base (word 2) is added (again, if it is named again)" */
    private static void addedAgain() {
        ImageForge twice = Build.simple();
        Words.set(twice, 200, 0x30003000);
        loads("a word named twice", twice, 0);
        Expect.same("added twice", Words.inMemory(twice, 8192 + 64), 10 + 68 + 4096 + 2 * 4096);
        ImageForge blocks = twoBlocks(12, 12);
        Words.set(blocks, 212, 0x3000 + 64);
        loads("a word named in two blocks", blocks, 0);
        Expect.same("added twice", Words.inMemory(blocks, 8192 + 64), 10 + 68 + 4096 + 2 * 4096);
        ImageForge overlapping = Build.simple();
        Words.set(overlapping, 64, 0x00FFF000);
        Words.set(overlapping, 200, 0x30013000);
        loads("words that overlap", overlapping, 0);
        Expect.same("the first byte", overlapping.at(8192 + 64), 0);
        Expect.same("the words", Words.inMemory(overlapping, 8192 + 65), 0x00010000 + 4096);
    }

    private static void addressLessBaseWraps() {
        for (int base : new int[] {0, 4095, 8192, 8193, -1, MAX, MIN}) {
            ImageForge forge = Build.simple();
            Words.set(forge, 8, base);
            loads("the base " + base, forge, 0);
            Expect.same("the word with the base " + base, Words.inMemory(forge, 8192 + 64), 10 + 68 + 4096 + 8192 - base);
        }
        ImageForge great = Build.simple();
        Words.set(great, 64, MAX);
        loads("the greatest word", great, 0);
        Expect.same("its sum wraps", Words.inMemory(great, 8192 + 64), MIN + 4095);
        Words.set(great, 64, MIN);
        great.seal();
        Expect.same("load(0)", great.load(0), 0);
        Expect.same("the sum of the least word wraps", Words.inMemory(great, 64), MAX - 4095);
    }
}
