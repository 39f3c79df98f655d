/** Promise 2: put. Each test bears the sentence that it holds the program to. */
public final class PutTest {
    private static final int MIN = Integer.MIN_VALUE;
    private static final int MAX = Integer.MAX_VALUE;

    public static void main(String[] args) {
        lowestBytesLowestFirst();
        behindThoseOfAPart();
        answersItsSize();
        noSuchObject();
        noSuchPart();
        from1To8();
        fullPart();
        wouldHaveMoreThan40();
        argumentBeforeState();
        Expect.end();
    }

    /** "Puts the lowest n bytes of v, lowest first" */
    private static void lowestBytesLowestFirst() {
        long v = 0x8877665544332211L;
        for (int n = 1; n <= 8; n++) {
            ImageForge forge = new ImageForge();
            forge.put(0, 0, v, n);
            forge.link();
            for (int i = 0; i < 9; i++) {
                Expect.same("byte " + i + " of " + n, forge.image(64 + i), i < n ? 0x11 * (i + 1) : 0);
            }
        }
        for (long all : new long[] {-1, Long.MIN_VALUE, Long.MAX_VALUE}) {
            ImageForge forge = new ImageForge();
            forge.put(0, 0, all, 8);
            forge.link();
            Words.expect("the bytes of " + all, forge, 64, (int) all, (int) (all >> 32));
        }
    }

    /** "behind those of a part" */
    private static void behindThoseOfAPart() {
        ImageForge forge = new ImageForge();
        forge.put(3, 1, 0x8877665544332211L, 8);
        forge.put(3, 1, -2, 1);
        forge.put(3, 0, -1, 8);
        forge.put(3, 1, 0x7F030201, 3);
        forge.link();
        Words.expect("code", forge, 64, -1, -1, 0);
        Words.expect("data", forge, 128, 0x44332211, 0x88776655, 0x030201FE, 0);
        Words.expect("sections", forge, 24, 64, 8, 128, 12);
    }

    /** "its size" (the answer) */
    private static void answersItsSize() {
        for (int object = 0; object < 4; object++) {
            for (int part = 0; part < 2; part++) {
                ImageForge forge = new ImageForge();
                int size = 0;
                for (int n = 1; n <= 8; n++) {
                    size += n;
                    Expect.same("put of " + n, forge.put(object, part, 0, n), size);
                }
                Expect.same("put of 4 up to 40", forge.put(object, part, 0, 4), 40);
            }
        }
    }

    /** "Throws IllegalArgumentException when there is no such object" */
    private static void noSuchObject() {
        for (int bad : new int[] {-1, 4, MIN, MAX}) {
            Refused.illegalArgument("put into object " + bad, Build::rich, f -> f.put(bad, 0, -1, 1));
        }
        for (int good : new int[] {0, 3}) {
            Expect.same("put into object " + good, new ImageForge().put(good, 0, -1, 1), 1);
        }
    }

    /** "Throws IllegalArgumentException when there is no such [...] part" */
    private static void noSuchPart() {
        for (int bad : new int[] {-1, 2, MIN, MAX}) {
            Refused.illegalArgument("put into part " + bad, Build::rich, f -> f.put(0, bad, -1, 1));
            Refused.illegalArgument("put into part " + bad + " of 3", Build::rich, f -> f.put(3, bad, -1, 1));
        }
        for (int good : new int[] {0, 1}) {
            Expect.same("put into part " + good, new ImageForge().put(0, good, -1, 1), 1);
        }
    }

    /** "or n is not 1 .. 8" */
    private static void from1To8() {
        for (int bad : new int[] {0, -1, 9, 16, MIN, MAX}) {
            Refused.illegalArgument("put of n " + bad, Build::rich, f -> f.put(0, 0, -1, bad));
        }
        for (int good : new int[] {1, 8}) {
            Expect.same("put of n " + good, new ImageForge().put(0, 0, -1, good), good);
        }
    }

    /** "[PARTS] of at most 40 bytes": all eight of them may be full. */
    private static void fullPart() {
        ImageForge forge = new ImageForge();
        for (int i = 0; i < 8; i++) {
            Build.bytes(forge, i / 2, i % 2, 39, i + 1);
            Expect.same("the last byte of a part", forge.put(i / 2, i % 2, i + 0x81, 1), 40);
        }
        for (int i = 0; i < 8; i++) {
            int part = i;
            Expect.illegalState("a byte behind the last", () -> forge.put(part / 2, part % 2, 0, 1));
        }
        forge.link();
        Words.expect("sections", forge, 24, 64, 160, 256, 160);
        for (int i = 0; i < 8; i++) {
            int end = 64 + i % 2 * 192 + i / 2 * 40 + 40;
            Expect.same("the last byte but one of part " + i, forge.image(end - 2), i + 1);
            Expect.same("the last byte of part " + i, forge.image(end - 1), i + 0x81);
        }
    }

    /** "IllegalStateException when it would have more than 40." */
    private static void wouldHaveMoreThan40() {
        for (int n = 1; n <= 8; n++) {
            int bytes = n;
            Refused.illegalState("put of " + n + " up to 41", () -> Build.withCode(41 - bytes),
                f -> f.put(0, 0, -1, bytes));
            Refused.illegalState("put of " + n + " behind 40", () -> Build.withCode(40),
                f -> f.put(0, 0, -1, bytes));
            Expect.same("put of " + n + " up to 40", Build.withCode(40 - n).put(0, 0, -1, n), 40);
        }
        Refused.illegalState("put into full data", Build::rich, f -> f.put(2, 1, -1, 1));
        ImageForge forge = Build.withCode(39);
        Expect.illegalState("put of 2 behind 39", () -> forge.put(0, 0, -1, 2));
        Expect.same("put of 1 behind 39 after a refused one", forge.put(0, 0, -1, 1), 40);
    }

    /** "of two exceptions the one that it names first is thrown." */
    private static void argumentBeforeState() {
        Refused.illegalArgument("put of 9 behind 40", () -> Build.withCode(40), f -> f.put(0, 0, -1, 9));
        Refused.illegalArgument("put of 0 behind 40", () -> Build.withCode(40), f -> f.put(0, 0, -1, 0));
        Refused.illegalArgument("put of the greatest n behind 40", () -> Build.withCode(40),
            f -> f.put(0, 0, -1, MAX));
    }
}
