/** Promise 1: A new object. Each test bears the sentence that it holds the program to. */
public final class NewObjectTest {
    public static void main(String[] args) {
        emptyObjects();
        nothingImported();
        nothingExported();
        nothingOffered();
        noImage();
        nothingLoaded();
        objectsShareNothing();
        usedFor512Calls();
        Expect.end();
    }

    /** "Empty objects" */
    private static void emptyObjects() {
        for (int object = 0; object < 4; object++) {
            for (int part = 0; part < 2; part++) {
                int o = object;
                int p = part;
                ImageForge forge = new ImageForge();
                Expect.illegalArgument("a definition behind an empty part", () -> forge.define(o, 0, p, 1));
                forge.define(o, 0, p, 0);
                Expect.illegalArgument("a reference in an empty part", () -> forge.refer(o, p, 0, 0, 0));
                Expect.same("the first byte", forge.put(o, p, 0, 1), 1);
            }
        }
        ImageForge empty = new ImageForge();
        Expect.same("link() of nothing", empty.link(), 64);
        Words.expect("sections of nothing", empty, 24, 64, 0, 64, 0, 64, 0, 64, 0, 64, 0);
    }

    /** "nothing imported" */
    private static void nothingImported() {
        ImageForge empty = new ImageForge();
        empty.link();
        Words.expect("IMPORTS", empty, 40, 64, 0);
        for (int name = 0; name < 16; name++) {
            ImageForge forge = Build.withCode(4);
            forge.refer(0, 0, 0, 0, name);
            Expect.noSuchElement("link() with a reference to name " + name, forge::link);
        }
    }

    /** "nothing [...] exported" */
    private static void nothingExported() {
        ImageForge forge = new ImageForge();
        for (int name = 0; name < 16; name++) {
            forge.define(name / 4, name, 0, 0);
        }
        Expect.same("link() of sixteen names", forge.link(), 64);
        Words.expect("EXPORTS", forge, 48, 64, 0);
    }

    /** "nothing [...] offered" */
    private static void nothingOffered() {
        for (int library = 0; library < 4; library++) {
            for (int ordinal = 0; ordinal < 100; ordinal++) {
                ImageForge forge = new ImageForge();
                forge.imported(0, library, ordinal);
                forge.link();
                Expect.same("load() with ordinal " + ordinal + " of library " + library, forge.load(0), 4);
            }
        }
    }

    /** "no image" */
    private static void noImage() {
        ImageForge forge = new ImageForge();
        Expect.noSuchElement("image(0)", () -> forge.image(0));
        Expect.noSuchElement("spoil(0, 1)", () -> forge.spoil(0, 1));
        Expect.illegalState("seal()", forge::seal);
        Expect.illegalState("load(0)", () -> forge.load(0));
        Expect.noSuchElement("image(0) after them", () -> forge.image(0));
    }

    /** "The byte at an address of what is loaded; -1 when there is none." and "0 without one." */
    private static void nothingLoaded() {
        ImageForge forge = new ImageForge();
        for (int address : new int[] {0, 1, 63, 64, 4096, -1, Integer.MIN_VALUE, Integer.MAX_VALUE}) {
            Expect.same("at(" + address + ")", forge.at(address), -1);
        }
        for (int name = -1; name <= 16; name++) {
            Expect.same("find(" + name + ")", forge.find(name), 0);
        }
    }

    private static void objectsShareNothing() {
        Build.rich();
        ImageForge forge = new ImageForge();
        Expect.noSuchElement("image(0) beside another object", () -> forge.image(0));
        Expect.same("at(8192) beside another object", forge.at(8192), -1);
        Expect.same("find(0) beside another object", forge.find(0), 0);
        Expect.same("link() beside another object", forge.link(), 64);
    }

    /** "An object is used for at most 512 calls after it has been made" */
    private static void usedFor512Calls() {
        ImageForge forge = Build.withCode(40);
        forge.define(0, 0, 0, 3);
        forge.exported(0, true);
        forge.refer(0, 0, 36, 0, 0);
        forge.imported(1, 3, 99);
        int calls = 9;
        for (; calls + 4 <= 508; calls += 4) {
            forge.offer(3, 99, calls);
            forge.link();
            forge.load(64 * calls);
            forge.find(0);
        }
        for (; calls < 508; calls++) {
            forge.seal();
        }
        forge.offer(3, 99, -9);
        Expect.same("the 510th call, link()", forge.link(), 320);
        Expect.same("the 511th call, load(1073741824)", forge.load(1073741824), 0);
        Expect.same("the 512th call, find(0)", forge.find(0), 1073741824 + 67);
    }
}
