/** Promise 10: seal. Each test bears the sentence that it holds the program to. */
public final class SealTest {
    public static void main(String[] args) {
        rightImageStays();
        checksumOfTheImageAsItIsNow();
        allOfTheWordIsPut();
        sizeIsHowManyBytesThereAre();
        checksumOfAllOnes();
        withoutAnImage();
        afterARefusedLink();
        Expect.end();
    }

    private static ImageForge withCode() {
        ImageForge forge = new ImageForge();
        forge.put(0, 0, 0xC3A5, 2);
        forge.link();
        return forge;
    }

    private static void rightImageStays() {
        ImageForge forge = withCode();
        int sum = Words.inImage(forge, 20);
        Expect.same("seal() of a right image", forge.seal(), sum);
        Words.expect("the header", forge, 20, sum);
        Refused.answers("seal() of a right image", sum, SealTest::withCode, ImageForge::seal);
    }

    /** "The checksum of the image as it is now is put into its header: that number." */
    private static void checksumOfTheImageAsItIsNow() {
        ImageForge forge = withCode();
        int sum = forge.seal() - 128;
        forge.spoil(67, 1);
        Expect.same("load() before it is sealed", forge.load(0), 2);
        Expect.same("seal() after a higher byte", forge.seal(), (sum + 256) % 65535 + 128);
        forge.spoil(66, 3);
        int now = forge.seal();
        Expect.same("seal() after a lower byte", now, (sum + 256 + 3) % 65535 + 128);
        Words.expect("the header", forge, 20, now);
        Expect.same("load()", forge.load(0), 0);
        forge.put(0, 0, 9, 8);
        Expect.same("what is put later is not in the image", forge.seal(), now);
        forge.spoil(127, 1);
        Expect.same("seal() after the last byte", forge.seal(), (sum + 256 + 3 + 256) % 65535 + 128);
        forge.spoil(0, 1);
        Expect.same("seal() after the first byte", forge.seal(), (sum + 256 + 3 + 256 - 1) % 65535 + 128);
    }

    private static void allOfTheWordIsPut() {
        ImageForge forge = withCode();
        int sum = forge.seal();
        Words.set(forge, 20, -1);
        Expect.same("seal() over all ones", forge.seal(), sum);
        Words.expect("the header", forge, 16, 0, sum, 64);
    }

    /** "at last s + the image's size" */
    private static void sizeIsHowManyBytesThereAre() {
        ImageForge forge = withCode();
        int sum = forge.seal();
        forge.spoil(12, 128 ^ 64);
        Expect.same("the header's word 3 counts as two bytes alone", forge.seal(), sum - 64);
    }

    private static void checksumOfAllOnes() {
        ImageForge forge = new ImageForge();
        forge.link();
        for (int i = 0; i < 64; i++) {
            forge.spoil(i, forge.image(i) ^ 255);
        }
        Expect.same("seal() of all ones", forge.seal(), 65535 + 64);
        for (int i = 0; i < 64; i++) {
            forge.spoil(i, forge.image(i));
        }
        Expect.same("seal() of zeros", forge.seal(), 64);
    }

    /** "Throws IllegalStateException without an image." */
    private static void withoutAnImage() {
        Refused.illegalState("seal()", ImageForge::new, ImageForge::seal);
        Refused.illegalState("seal() with bytes", () -> Build.withCode(8), ImageForge::seal);
    }

    private static void afterARefusedLink() {
        ImageForge forge = new ImageForge();
        forge.exported(0, true);
        Expect.noSuchElement("link()", forge::link);
        Expect.illegalState("seal()", forge::seal);
    }
}
