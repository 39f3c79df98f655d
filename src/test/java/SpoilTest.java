/** Promise 9: spoil. Each test bears the sentence that it holds the program to. */
public final class SpoilTest {
    public static void main(String[] args) {
        xorOfTheLowestBits();
        upperBitsDoNotCount();
        oneByteAlone();
        noSuchByte();
        noneWithoutAnImage();
        imageAlone();
        Expect.end();
    }

    private static ImageForge withCode() {
        ImageForge forge = new ImageForge();
        forge.put(0, 0, 0xC3A5, 2);
        forge.link();
        return forge;
    }

    /** "it becomes itself xor the lowest 8 bits of mask" */
    private static void xorOfTheLowestBits() {
        ImageForge forge = withCode();
        int due = 0xA5;
        for (int mask : new int[] {0x0F, 0xFF, 0, 1, 0x80, 0x7F}) {
            forge.spoil(64, mask);
            due ^= mask;
            Expect.same("xor " + mask, forge.image(64), due);
        }
    }

    private static void upperBitsDoNotCount() {
        ImageForge forge = withCode();
        for (int mask : new int[] {0x100, 0xFFFFFF00, Integer.MIN_VALUE, 0x7FFFFF00}) {
            forge.spoil(65, mask);
            Expect.same("xor " + mask, forge.image(65), 0xC3);
        }
        forge.spoil(65, -1);
        Expect.same("a mask below 0", forge.image(65), 0x3C);
        forge.spoil(65, 0x1FF);
        Expect.same("a mask above 255", forge.image(65), 0xC3);
        Words.expect("the bytes beside it", forge, 64, 0xC3A5);
    }

    private static void oneByteAlone() {
        for (int place : new int[] {0, 1, 127}) {
            ImageForge forge = withCode();
            ImageForge other = withCode();
            forge.spoil(place, 255);
            for (int i = 0; i < 128; i++) {
                Expect.same("byte " + i, forge.image(i), other.image(i) ^ (i == place ? 255 : 0));
            }
        }
    }

    /** "Throws NoSuchElementException when there is none." */
    private static void noSuchByte() {
        for (int bad : new int[] {-1, 384, Integer.MIN_VALUE, Integer.MAX_VALUE}) {
            Refused.noSuchElement("spoil(" + bad + ", 1)", Build::rich, f -> f.spoil(bad, 1));
            Refused.noSuchElement("spoil(" + bad + ", 0)", Build::rich, f -> f.spoil(bad, 0));
        }
        for (int good : new int[] {0, 383}) {
            ImageForge forge = Build.rich();
            int before = forge.image(good);
            forge.spoil(good, 1);
            Expect.same("spoil(" + good + ", 1)", forge.image(good), before ^ 1);
        }
    }

    private static void noneWithoutAnImage() {
        Refused.noSuchElement("spoil(0, 1)", ImageForge::new, f -> f.spoil(0, 1));
        Refused.noSuchElement("spoil(0, 0)", ImageForge::new, f -> f.spoil(0, 0));
    }

    private static void imageAlone() {
        ImageForge forge = withCode();
        forge.load(64);
        forge.spoil(64, 0xFF);
        Expect.same("what is loaded stays", forge.at(128), 0xA5);
        Expect.same("load() of a spoiled image", forge.load(64), 2);
        forge.link();
        Expect.same("the objects stay", forge.image(64), 0xA5);
    }
}
