/** Reads and writes whole words through the calls of the face that know bytes alone. */
final class Words {
    static final int ORDINAL = 1 << 31;

    private Words() {
    }

    static int inImage(ImageForge forge, int place) {
        return forge.image(place) | forge.image(place + 1) << 8
            | forge.image(place + 2) << 16 | forge.image(place + 3) << 24;
    }

    static int inMemory(ImageForge forge, int address) {
        return forge.at(address) | forge.at(address + 1) << 8
            | forge.at(address + 2) << 16 | forge.at(address + 3) << 24;
    }

    /** Spoils the image so that a word of it becomes the given one. */
    static void set(ImageForge forge, int place, int word) {
        for (int i = 0; i < 4; i++) {
            forge.spoil(place + i, forge.image(place + i) ^ (word >> 8 * i));
        }
    }

    static void expect(String what, ImageForge forge, int place, int... want) {
        for (int i = 0; i < want.length; i++) {
            Expect.same(what + ": the image's word at " + (place + 4 * i), inImage(forge, place + 4 * i), want[i]);
        }
    }
}
