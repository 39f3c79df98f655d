/** Promise 14: find. */
public final class FindTest {
    public static void main(String[] args) {
        findsExports();
        findsNothing();
        firstOfTwo();
        countOfPairs();
        pairsAllInTheSection();
        whereTheImageSaidThatItLies();
        exportsThatAreMoved();
        readsWhatIsLoaded();
        Expect.end();
    }

    /** Exports at 128: a word, and the names 3, 5, 9 at 64, 66, 72; one ABSOLUTE word; 256 bytes. */
    private static ImageForge simple() {
        ImageForge forge = new ImageForge();
        forge.put(1, 0, 0, 8);
        forge.define(1, 9, 0, 8);
        forge.define(1, 3, 0, 0);
        forge.define(1, 5, 0, 2);
        forge.refer(1, 0, 4, 0, 3);
        forge.exported(9, true);
        forge.exported(5, true);
        forge.exported(3, true);
        Expect.same("the simple image", forge.link(), 256);
        return forge;
    }

    private static void found(String what, ImageForge forge, int third, int fifth, int ninth) {
        forge.seal();
        Expect.same("load() with " + what, forge.load(8192), 0);
        Expect.same("find(3) with " + what, forge.find(3), third);
        Expect.same("find(5) with " + what, forge.find(5), fifth);
        Expect.same("find(9) with " + what, forge.find(9), ninth);
    }

    private static void findsExports() {
        ImageForge forge = simple();
        found("nothing spoiled", forge, 8192 + 64, 8192 + 66, 8192 + 72);
        forge.load(0);
        Expect.same("find(3) at 0", forge.find(3), 64);
        forge.load(1073741824);
        Expect.same("find(9) far away", forge.find(9), 1073741824 + 72);
    }

    private static void findsNothing() {
        ImageForge forge = simple();
        Expect.same("before a load", forge.find(3), 0);
        forge.load(8192);
        for (int name : new int[] {0, 4, 15, 16, -1, 128, Integer.MIN_VALUE, Integer.MAX_VALUE}) {
            Expect.same("find(" + name + ")", forge.find(name), 0);
        }
        ImageForge none = new ImageForge();
        none.define(0, 0, 0, 0);
        none.link();
        none.load(64);
        Expect.same("a name that is not exported", none.find(0), 0);
    }

    private static void firstOfTwo() {
        ImageForge forge = simple();
        Words.set(forge, 140, 3);
        found("name 3 twice", forge, 8192 + 64, 0, 8192 + 72);
        Words.set(forge, 132, 9);
        found("name 9 first and last", forge, 8192 + 66, 0, 8192 + 64);
    }

    private static void countOfPairs() {
        int[] address = {8192 + 64, 8192 + 66, 8192 + 72};
        for (int count : new int[] {0, 1, 2, 3, 4, 1000, Integer.MAX_VALUE, -1, Integer.MIN_VALUE}) {
            ImageForge forge = simple();
            Words.set(forge, 128, count);
            found("a count of " + count, forge,
                count > 0 ? address[0] : 0, count > 1 ? address[1] : 0, count > 2 ? address[2] : 0);
        }
    }

    private static void pairsAllInTheSection() {
        for (int size = 0; size <= 28; size++) {
            ImageForge forge = simple();
            Words.set(forge, 52, size);
            found("a section of " + size, forge,
                size >= 12 ? 8192 + 64 : 0, size >= 20 ? 8192 + 66 : 0, size >= 28 ? 8192 + 72 : 0);
        }
        ImageForge longer = simple();
        Words.set(longer, 52, 44);
        Words.set(longer, 128, 5);
        Words.set(longer, 156, 4);
        Words.set(longer, 160, -8193);
        Words.set(longer, 164, -7);
        Words.set(longer, 168, 1);
        found("a longer section", longer, 8192 + 64, 8192 + 66, 8192 + 72);
        Expect.same("a place below 0", longer.find(4), -1);
        Expect.same("a word that is no name of an object", longer.find(-7), 8193);
    }

    private static void whereTheImageSaidThatItLies() {
        ImageForge forge = simple();
        Words.set(forge, 48, 136);
        found("exports that begin 8 later", forge, 0, 8192 + 66, 8192 + 72);
        Words.set(forge, 48, 140);
        found("exports that begin 12 later", forge, 0, 0, 0);
        Expect.same("its first pair", forge.find(66), 8192 + 9);
        Words.set(forge, 48, 128);
        Expect.same("what is spoiled later", forge.find(66), 8192 + 9);
        ImageForge end = simple();
        Words.set(end, 48, 256);
        Words.set(end, 52, 0);
        found("exports at the end", end, 0, 0, 0);
        Words.set(end, 48, 252);
        Words.set(end, 52, 4);
        Words.set(end, 252, 7);
        found("exports with a first word alone", end, 0, 0, 0);
        ImageForge header = simple();
        Words.set(header, 192, 0);
        Words.set(header, 200, 0x3000 + 48);
        found("a header that the load has changed", header, 8192 + 64, 8192 + 66, 8192 + 72);
        Expect.same("the changed header", Words.inMemory(header, 8192 + 48), 128 + 4096);
    }

    private static void exportsThatAreMoved() {
        ImageForge forge = simple();
        Words.set(forge, 192, 128);
        Words.set(forge, 200, 0x30143000 + 8);
        found("a place and a name that the load has changed", forge, 8192 + 64 + 4096, 8192 + 66, 0);
        Expect.same("the changed name", forge.find(9 + 4096), 8192 + 72);
    }

    private static void readsWhatIsLoaded() {
        ImageForge forge = simple();
        forge.load(8192);
        Words.set(forge, 136, 1);
        Expect.same("spoil() is for the image", forge.find(3), 8192 + 64);
        forge.exported(3, false);
        forge.link();
        Expect.same("link() is for the image", forge.find(3), 8192 + 64);
        forge.spoil(0, 1);
        Expect.same("a refused load", forge.load(0), 1);
        Expect.same("what was loaded stays", forge.find(3), 8192 + 64);
        forge.spoil(0, 1);
        Expect.same("load()", forge.load(64), 0);
        Expect.same("an export that is no more", forge.find(3), 0);
        Expect.same("another one", forge.find(5), 64 + 66);
    }
}
