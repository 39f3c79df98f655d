/** Promise 11: offer. Each test bears the sentence that it holds the program to. */
public final class OfferTest {
    private static final int MIN = Integer.MIN_VALUE;
    private static final int MAX = Integer.MAX_VALUE;

    public static void main(String[] args) {
        anOrdinalAtAnAddress();
        inPlaceOfAnotherOne();
        noneWithAddressZero();
        thatOrdinalAlone();
        noSuchLibrary();
        noSuchOrdinal();
        forLaterLoads();
        Expect.end();
    }

    private static ImageForge importing(int library, int ordinal) {
        ImageForge forge = new ImageForge();
        forge.imported(0, library, ordinal);
        forge.link();
        return forge;
    }

    /** "A library offers an ordinal at an address" */
    private static void anOrdinalAtAnAddress() {
        for (int library : new int[] {0, 3}) {
            for (int ordinal : new int[] {0, 99}) {
                for (int address : new int[] {1, -1, 63, MIN, MAX}) {
                    ImageForge forge = importing(library, ordinal);
                    Expect.same("load() without the offer", forge.load(8192), 4);
                    forge.offer(library, ordinal, address);
                    Expect.same("load() with an offer at " + address, forge.load(8192), 0);
                    Expect.same("the slot", Words.inMemory(forge, 8192 + 80), address);
                }
            }
        }
    }

    /** "(in place of another one)" */
    private static void inPlaceOfAnotherOne() {
        ImageForge forge = importing(2, 5);
        forge.offer(2, 5, 7);
        forge.offer(2, 5, 8);
        Expect.same("load() with another offer", forge.load(8192), 0);
        Expect.same("the slot", Words.inMemory(forge, 8192 + 80), 8);
    }

    /** "none with address 0" */
    private static void noneWithAddressZero() {
        ImageForge forge = importing(2, 5);
        forge.offer(2, 5, 0);
        Expect.same("load() with an offer at 0", forge.load(8192), 4);
        forge.offer(2, 5, 7);
        forge.offer(2, 5, 0);
        Expect.same("load() with an offer that is no more", forge.load(8192), 4);
        forge.offer(2, 5, 9);
        Expect.same("load() with an offer again", forge.load(8192), 0);
        Expect.same("the slot", Words.inMemory(forge, 8192 + 80), 9);
    }

    private static void thatOrdinalAlone() {
        ImageForge forge = importing(2, 5);
        forge.offer(1, 5, 8);
        forge.offer(3, 5, 8);
        forge.offer(2, 4, 8);
        forge.offer(2, 6, 8);
        Expect.same("load() with offers beside it", forge.load(8192), 4);
        forge.offer(2, 5, 9);
        forge.offer(1, 5, 0);
        forge.offer(3, 5, 0);
        forge.offer(2, 4, 0);
        forge.offer(2, 6, 0);
        Expect.same("load() without offers beside it", forge.load(8192), 0);
    }

    /** "Throws IllegalArgumentException when there is no such library" */
    private static void noSuchLibrary() {
        for (int bad : new int[] {-1, 4, MIN, MAX}) {
            for (int ordinal : new int[] {0, 99}) {
                Refused.illegalArgument("offer of library " + bad, Build::rich, f -> f.offer(bad, ordinal, 9));
                Refused.illegalArgument("no offer of library " + bad, Build::rich, f -> f.offer(bad, ordinal, 0));
            }
        }
    }

    /** "or ordinal is not 0 .. 99" */
    private static void noSuchOrdinal() {
        for (int bad : new int[] {-1, 100, MIN, MAX}) {
            for (int library : new int[] {0, 3}) {
                Refused.illegalArgument("offer of ordinal " + bad, Build::rich, f -> f.offer(library, bad, 9));
                Refused.illegalArgument("no offer of ordinal " + bad, Build::rich, f -> f.offer(library, bad, 0));
            }
        }
    }

    private static void forLaterLoads() {
        ImageForge forge = importing(2, 5);
        forge.offer(2, 5, 7);
        forge.load(8192);
        forge.offer(2, 5, 8);
        Expect.same("the slot of what is loaded", Words.inMemory(forge, 8192 + 80), 7);
        forge.offer(2, 5, 0);
        Expect.same("the slot of what is loaded", Words.inMemory(forge, 8192 + 80), 7);
        Words.expect("the image", forge, 80, Words.ORDINAL + 5);
    }
}
