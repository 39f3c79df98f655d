/** Puts objects together for the tests. */
final class Build {
    private Build() {
    }

    /** Puts so many bytes, all of one value, behind those of a part. */
    static void bytes(ImageForge forge, int object, int part, int count, int value) {
        for (int left = count; left > 0; left -= 8) {
            forge.put(object, part, (value & 255) * 0x0101010101010101L, Math.min(left, 8));
        }
    }

    /** A new object whose object 0 has so many bytes 0 of code. */
    static ImageForge withCode(int count) {
        ImageForge forge = new ImageForge();
        bytes(forge, 0, 0, count, 0);
        return forge;
    }

    /** A new object with an image of so many bytes 0 of code, and nothing else. */
    static ImageForge linkedCode(int count) {
        ImageForge forge = withCode(count);
        forge.link();
        return forge;
    }

    /**
     * Code: an ABSOLUTE word at 64 that means 68; imports at 128 of library 2, slots at 144 by
     * ordinals 5 and 6, both offered; relocations at 192, one block of 12; 256 bytes.
     */
    static ImageForge simple() {
        ImageForge forge = new ImageForge();
        forge.put(0, 0, 10, 4);
        forge.put(0, 0, 0, 4);
        forge.define(0, 0, 0, 4);
        forge.refer(0, 0, 0, 0, 0);
        forge.imported(1, 2, 5);
        forge.imported(2, 2, 6);
        Expect.same("the simple image", forge.link(), 256);
        forge.offer(2, 5, 0x01020304);
        forge.offer(2, 6, -2);
        return forge;
    }

    /**
     * All that can be said has been said, and more could be: parts that are empty, begun and full,
     * definitions, references of each kind, imports, exports, offers; what is loaded at 8192 is no
     * more what the image holds.
     */
    static ImageForge rich() {
        ImageForge forge = new ImageForge();
        bytes(forge, 0, 0, 12, 0x11);
        bytes(forge, 0, 1, 8, 0x22);
        bytes(forge, 1, 0, 5, 0x33);
        bytes(forge, 2, 1, 40, 0x44);
        forge.define(0, 0, 0, 4);
        forge.define(0, 1, 1, 8);
        forge.define(1, 2, 0, 5);
        forge.define(2, 3, 1, 0);
        forge.imported(12, 0, 0);
        forge.imported(13, 3, 99);
        forge.imported(14, 3, 7);
        forge.refer(0, 0, 0, 0, 3);
        forge.refer(0, 0, 4, 1, 12);
        forge.refer(0, 0, 8, 2, 0);
        forge.refer(0, 1, 1, 0, 13);
        forge.refer(2, 1, 36, 0, 0);
        forge.exported(0, true);
        forge.exported(2, true);
        forge.exported(3, true);
        forge.offer(0, 0, 0x01010101);
        forge.offer(3, 7, 77);
        forge.offer(3, 99, -5);
        Expect.same("link() of the rich object", forge.link(), 384);
        Expect.same("load() of the rich object", forge.load(8192), 0);
        forge.spoil(131, 0x5A);
        return forge;
    }
}
