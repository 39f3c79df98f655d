/** Promise 13: at. Each test bears the sentence that it holds the program to. */
public final class AtTest {
    public static void main(String[] args) {
        aByteOfWhatIsLoaded();
        belowAndBehind();
        farAway();
        atTheFirstAndTheLastAddress();
        nothingLoaded();
        changesNothing();
        Expect.end();
    }

    /** "The byte at an address of what is loaded" */
    private static void aByteOfWhatIsLoaded() {
        ImageForge forge = new ImageForge();
        forge.put(0, 0, 0xFF807F0100L, 5);
        forge.link();
        forge.load(8192);
        int[] want = {0, 1, 0x7F, 0x80, 0xFF};
        for (int i = 0; i < 5; i++) {
            Expect.same("byte " + i + " of the code", forge.at(8192 + 64 + i), want[i]);
        }
        for (int i = 0; i < 128; i++) {
            Expect.same("byte " + i, forge.at(8192 + i), forge.image(i));
        }
    }

    /** "-1 when there is none." */
    private static void belowAndBehind() {
        ImageForge forge = Build.simple();
        forge.load(128);
        Expect.same("below", forge.at(127), -1);
        Expect.same("the first byte", forge.at(128), 77);
        Expect.same("the last byte", forge.at(128 + 255), 0);
        Expect.same("behind", forge.at(128 + 256), -1);
    }

    private static void farAway() {
        ImageForge forge = Build.simple();
        forge.load(128);
        for (int far : new int[] {0, -1, -128, 128 - 65536, Integer.MIN_VALUE, Integer.MIN_VALUE + 128, Integer.MAX_VALUE}) {
            Expect.same("at(" + far + ")", forge.at(far), -1);
        }
        forge.load(1073741824);
        for (int far : new int[] {0, -1, 77, -1073741824, Integer.MIN_VALUE, Integer.MAX_VALUE, -1073741824 - 1}) {
            Expect.same("at(" + far + ")", forge.at(far), -1);
        }
    }

    private static void atTheFirstAndTheLastAddress() {
        ImageForge forge = Build.simple();
        forge.load(0);
        Expect.same("at(-1)", forge.at(-1), -1);
        Expect.same("at(0)", forge.at(0), 77);
        Expect.same("at(255)", forge.at(255), 0);
        Expect.same("at(256)", forge.at(256), -1);
        forge.load(1073741824);
        Expect.same("the byte below the last address", forge.at(1073741823), -1);
        Expect.same("the byte at the last address", forge.at(1073741824), 77);
        Expect.same("the last byte there", forge.at(1073741824 + 255), 0);
        Expect.same("the byte behind", forge.at(1073741824 + 256), -1);
    }

    private static void nothingLoaded() {
        ImageForge forge = new ImageForge();
        Expect.same("a new object", forge.at(0), -1);
        forge.link();
        Expect.same("linked, not loaded", forge.at(0), -1);
        Expect.same("linked, not loaded, at the base", forge.at(4096), -1);
    }

    private static void changesNothing() {
        Refused.answers("at(8192)", 77, Build::rich, f -> f.at(8192));
        Refused.answers("at(8191)", -1, Build::rich, f -> f.at(8191));
        Refused.answers("at(-1)", -1, Build::rich, f -> f.at(-1));
    }
}
