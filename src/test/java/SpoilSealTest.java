/** Promises 9 and 10: spoil, seal. */
public final class SpoilSealTest {
    public static void main(String[] args) {
        spoilIsXorOfTheLowestByte();
        spoilRefuses();
        sealMakesTheChecksumRight();
        sealTakesTheImageAsItIs();
        sealRefuses();
        Expect.end();
    }

    private static ImageForge withCode() {
        ImageForge forge = new ImageForge();
        forge.put(0, 0, 0xC3A5, 2);
        forge.link();
        return forge;
    }

    private static void spoilIsXorOfTheLowestByte() {
        ImageForge forge = withCode();
        forge.spoil(64, 0x0F);
        Expect.same("xor", forge.image(64), 0xAA);
        forge.spoil(64, 0xFF);
        Expect.same("xor again", forge.image(64), 0x55);
        forge.spoil(65, 0xFFFFFF00);
        Expect.same("the upper bits of the mask", forge.image(65), 0xC3);
        forge.spoil(65, -1);
        Expect.same("a mask below 0", forge.image(65), 0x3C);
        forge.spoil(0, 0);
        Expect.same("a mask of 0", forge.image(0), 77);
        Expect.same("other bytes", forge.image(66), 0);
    }

    private static void spoilRefuses() {
        ImageForge none = new ImageForge();
        Expect.noSuchElement("spoil(0, 0) without an image", () -> none.spoil(0, 0));
        ImageForge forge = withCode();
        for (int bad : new int[] {-1, 128, Integer.MIN_VALUE, Integer.MAX_VALUE}) {
            Expect.noSuchElement("spoil(" + bad + ", 1)", () -> forge.spoil(bad, 1));
        }
        forge.spoil(127, 1);
        Expect.same("the last byte", forge.image(127), 1);
        Expect.same("load() of a spoiled image", forge.load(0), 2);
    }

    private static void sealMakesTheChecksumRight() {
        ImageForge forge = withCode();
        int sum = Words.inImage(forge, 20);
        Expect.same("seal() of a right image", forge.seal(), sum);
        forge.spoil(67, 1);
        Expect.same("seal() after a higher byte", forge.seal(), (sum - 128 + 256) % 65535 + 128);
        forge.spoil(66, 3);
        int now = forge.seal();
        Expect.same("seal() after a lower byte", now, (sum - 128 + 256 + 3) % 65535 + 128);
        Words.expect("the header", forge, 20, now);
        Expect.same("load()", forge.load(0), 0);
    }

    private static void sealTakesTheImageAsItIs() {
        ImageForge forge = withCode();
        int sum = forge.seal();
        Words.set(forge, 20, -1);
        Expect.same("the checksum's own bytes do not count", forge.seal(), sum);
        Words.expect("all four bytes are put", forge, 20, sum);
        forge.put(0, 0, 9, 8);
        Expect.same("what is put later is not in the image", forge.seal(), sum);
        forge.spoil(12, 128 ^ 64);
        Expect.same("the size is how many bytes there are", forge.seal(), sum - 64);
    }

    private static void sealRefuses() {
        ImageForge none = new ImageForge();
        Expect.illegalState("seal() without an image", none::seal);
        none.exported(0, true);
        Expect.noSuchElement("link()", none::link);
        Expect.illegalState("seal() after a refused link", none::seal);
    }
}
