/** Promise 8: image. Each test bears the sentence that it holds the program to. */
public final class ImageTest {
    public static void main(String[] args) {
        aByteOfTheImage();
        noSuchByte();
        noneWithoutAnImage();
        endMovesWithTheImage();
        Expect.end();
    }

    /** "A byte of the image." */
    private static void aByteOfTheImage() {
        ImageForge forge = new ImageForge();
        forge.put(0, 0, 0xFF80_7F01_00L, 5);
        forge.link();
        int[] want = {0, 1, 0x7F, 0x80, 0xFF};
        for (int i = 0; i < 5; i++) {
            Expect.same("byte " + i + " of the code", forge.image(64 + i), want[i]);
        }
        Expect.same("the first byte", forge.image(0), 77);
        Expect.same("the last byte", forge.image(127), 0);
    }

    /** "Throws NoSuchElementException when there is none." */
    private static void noSuchByte() {
        for (int bad : new int[] {-1, 384, Integer.MIN_VALUE, Integer.MAX_VALUE}) {
            Refused.noSuchElement("image(" + bad + ")", Build::rich, f -> f.image(bad));
        }
        Refused.answers("image(0)", 77, Build::rich, f -> f.image(0));
        Refused.answers("image(383)", 0, Build::rich, f -> f.image(383));
    }

    private static void noneWithoutAnImage() {
        for (int bad : new int[] {-1, 0, 1, 63, 64}) {
            Refused.noSuchElement("image(" + bad + ")", ImageForge::new, f -> f.image(bad));
        }
    }

    private static void endMovesWithTheImage() {
        ImageForge forge = Build.withCode(4);
        forge.imported(0, 0, 0);
        forge.link();
        Expect.same("the last byte of 192", forge.image(191), 0);
        Expect.noSuchElement("image(192)", () -> forge.image(192));
        forge.imported(0, -1, 0);
        forge.link();
        Expect.same("the last byte of 128", forge.image(127), 0);
        Expect.noSuchElement("image(128)", () -> forge.image(128));
    }
}
