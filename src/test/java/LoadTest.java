/** Promise 12: load. Each test bears the sentence that it holds the program to. */
public final class LoadTest {
    private static final int LAST = 1073741824;

    public static void main(String[] args) {
        movesAndBinds();
        imageStays();
        addressFromZeroOn();
        addressUpToTheLast();
        addressIsAMultipleOf64();
        withoutAnImage();
        argumentBeforeState();
        loadAgain();
        loadOfLess();
        loadOfMore();
        whatWasLoadedStays();
        nothingLoadedStaysNothing();
        Expect.end();
    }

    /** "Loads: 0" */
    private static void movesAndBinds() {
        ImageForge forge = Build.simple();
        Expect.same("load(8192)", forge.load(8192), 0);
        Expect.same("the ABSOLUTE word", Words.inMemory(forge, 8192 + 64), 10 + 68 + 8192);
        Expect.same("the word behind it", Words.inMemory(forge, 8192 + 68), 0);
        Expect.same("the first slot", Words.inMemory(forge, 8192 + 144), 0x01020304);
        Expect.same("the second slot", Words.inMemory(forge, 8192 + 148), -2);
        Expect.same("the word 0 behind them", Words.inMemory(forge, 8192 + 152), 0);
        Expect.same("the base in the header", Words.inMemory(forge, 8192 + 8), 4096);
        Expect.same("load(4096), at the base", forge.load(4096), 0);
        Expect.same("the ABSOLUTE word", Words.inMemory(forge, 4096 + 64), 10 + 68 + 4096);
        Expect.same("load(4032), below the base", forge.load(4032), 0);
        Expect.same("the ABSOLUTE word", Words.inMemory(forge, 4032 + 64), 10 + 68 + 4032);
    }

    private static void imageStays() {
        ImageForge forge = Build.simple();
        ImageForge other = Build.simple();
        forge.load(8192);
        for (int i = 0; i < 256; i++) {
            Expect.same("byte " + i + " of the image", forge.image(i), other.image(i));
        }
    }

    private static void fits(int address) {
        ImageForge forge = Build.simple();
        Expect.same("load(" + address + ")", forge.load(address), 0);
        Expect.same("the byte below " + address, forge.at(address - 1), -1);
        Expect.same("the first byte at " + address, forge.at(address), 77);
        Expect.same("the word at " + address, Words.inMemory(forge, address + 64), 10 + 68 + address);
        Expect.same("the last byte at " + address, forge.at(address + 255), 0);
        Expect.same("the byte behind " + address, forge.at(address + 256), -1);
    }

    private static void refused(int address) {
        Refused.illegalArgument("load(" + address + ")", Build::simple, f -> f.load(address));
        Refused.illegalArgument("load(" + address + ") over another", () -> {
            ImageForge forge = Build.simple();
            forge.load(8192);
            return forge;
        }, f -> f.load(address));
    }

    /** "Throws IllegalArgumentException when address is not a multiple of 64 from 0 [...]" */
    private static void addressFromZeroOn() {
        fits(0);
        fits(64);
        refused(-1);
        refused(-64);
        refused(-8192);
        refused(Integer.MIN_VALUE);
    }

    /** "[...] to 1073741824" */
    private static void addressUpToTheLast() {
        fits(LAST - 64);
        fits(LAST);
        refused(LAST + 64);
        refused(Integer.MAX_VALUE - 63);
        refused(Integer.MAX_VALUE);
    }

    /** "not a multiple of 64" */
    private static void addressIsAMultipleOf64() {
        for (int bad : new int[] {1, 2, 4, 8, 16, 32, 63, 65, 96, 127, 4097, LAST - 32, LAST - 1, LAST + 1}) {
            refused(bad);
        }
        fits(128);
        fits(192);
    }

    /** "IllegalStateException without an image." */
    private static void withoutAnImage() {
        Refused.illegalState("load(0)", ImageForge::new, f -> f.load(0));
        Refused.illegalState("load(1073741824)", ImageForge::new, f -> f.load(LAST));
        Refused.illegalState("load(64) with bytes", () -> Build.withCode(8), f -> f.load(64));
    }

    /** "of two exceptions the one that it names first is thrown." */
    private static void argumentBeforeState() {
        for (int bad : new int[] {-64, 1, LAST + 64}) {
            Refused.illegalArgument("load(" + bad + ") without an image", ImageForge::new, f -> f.load(bad));
        }
    }

    private static void loadAgain() {
        ImageForge forge = Build.simple();
        forge.load(8192);
        Expect.same("load() elsewhere", forge.load(64), 0);
        Expect.same("where it was before", forge.at(8192), -1);
        Expect.same("where it is now", forge.at(64), 77);
        Expect.same("the ABSOLUTE word is moved once", Words.inMemory(forge, 64 + 64), 10 + 68 + 64);
        Expect.same("load() at the same place", forge.load(64), 0);
        Expect.same("the ABSOLUTE word is moved once", Words.inMemory(forge, 64 + 64), 10 + 68 + 64);
        Expect.same("load() that overlaps it", forge.load(128), 0);
        Expect.same("the byte below", forge.at(127), -1);
        Expect.same("the ABSOLUTE word", Words.inMemory(forge, 128 + 64), 10 + 68 + 128);
    }

    private static void loadOfLess() {
        ImageForge forge = Build.simple();
        forge.load(0);
        forge.load(0);
        forge.imported(1, -1, 0);
        forge.imported(2, -1, 0);
        Expect.same("a shorter image", forge.link(), 192);
        for (int times = 1; times <= 3; times++) {
            Expect.same("load() of less", forge.load(0), 0);
            Expect.same("its last byte", forge.at(191), 0);
            Expect.same("a byte of the longer one", forge.at(192), -1);
        }
    }

    private static void loadOfMore() {
        ImageForge forge = Build.simple();
        forge.load(0);
        Build.bytes(forge, 3, 1, 40, 0x55);
        Expect.same("a longer image", forge.link(), 320);
        Expect.same("the byte behind the shorter one", forge.at(256), -1);
        forge.load(0);
        Expect.same("a byte of the longer one", forge.at(128), 0x55);
        Expect.same("its last byte", forge.at(319), 0);
        Expect.same("the byte behind it", forge.at(320), -1);
    }

    /** The simple image, loaded at 8192; one word of it is another since. */
    private static ImageForge loadedAndSpoiled(int place, int word, boolean sealed) {
        ImageForge forge = Build.simple();
        forge.load(8192);
        Words.set(forge, 68, 99);
        Words.set(forge, place, word);
        if (sealed) {
            forge.seal();
        }
        return forge;
    }

    /** "or what is wrong (then what was loaded stays)" */
    private static void whatWasLoadedStays() {
        Refused.answers("load() with 1", 1, () -> loadedAndSpoiled(4, 6, true), f -> f.load(4096));
        Refused.answers("load() with 2", 2, () -> loadedAndSpoiled(68, 98, false), f -> f.load(4096));
        Refused.answers("load() with a section", 3, () -> loadedAndSpoiled(24, -1, true), f -> f.load(4096));
        Refused.answers("load() with a second entry", 3, () -> loadedAndSpoiled(200, 0x10003004, true), f -> f.load(4096));
        Refused.answers("load() with a pair", 3, () -> loadedAndSpoiled(136, 5, true), f -> f.load(4096));
        Refused.answers("load() with a second slot", 3, () -> loadedAndSpoiled(148, 6, true), f -> f.load(4096));
        Refused.answers("load() with 4", 4, () -> loadedAndSpoiled(148, Words.ORDINAL + 7, true), f -> f.load(4096));
        ImageForge forge = loadedAndSpoiled(148, Words.ORDINAL + 7, true);
        Expect.same("load(4096)", forge.load(4096), 4);
        Expect.same("no other place", forge.at(4096), -1);
        Expect.same("the place", forge.at(8192), 77);
        Expect.same("a word of the code", Words.inMemory(forge, 8192 + 68), 0);
        Expect.same("the ABSOLUTE word", Words.inMemory(forge, 8192 + 64), 10 + 68 + 8192);
        Expect.same("the first slot", Words.inMemory(forge, 8192 + 144), 0x01020304);
        Expect.same("the second slot", Words.inMemory(forge, 8192 + 148), -2);
        forge.offer(2, 7, 70);
        Expect.same("load() when it is right again", forge.load(4096), 0);
        Expect.same("the word of the code", Words.inMemory(forge, 4096 + 68), 99);
        Expect.same("the ABSOLUTE word is moved once", Words.inMemory(forge, 4096 + 64), 10 + 68 + 4096);
    }

    private static void nothingLoadedStaysNothing() {
        Refused.answers("a refused first load", 2, () -> {
            ImageForge forge = Build.simple();
            forge.spoil(255, 1);
            return forge;
        }, f -> f.load(0));
        ImageForge forge = Build.simple();
        forge.offer(2, 6, 0);
        Expect.same("load(0)", forge.load(0), 4);
        Expect.same("at(0)", forge.at(0), -1);
        Expect.same("find(0)", forge.find(0), 0);
    }
}
