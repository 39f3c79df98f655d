import java.util.ArrayList;
import java.util.Arrays;
import java.util.NoSuchElementException;

/**
 * A linker that makes one image out of objects, and a loader that reads nothing but the image's
 * bytes, moves it to any place, binds it to the libraries, and refuses what is malformed.
 */
public final class ImageForge {
    private static final int WORD = 4;
    private static final int HALF = 2;
    private static final int PAIR = 2 * WORD;

    private static final int OBJECTS = 4;
    private static final int PARTS = 2;
    private static final int PART_LIMIT = 40;
    private static final int DEFINITION_LIMIT = 6;
    private static final int REFERENCE_LIMIT = 8;
    private static final int NAMES = 16;
    private static final int LIBRARIES = 4;
    private static final int NO_LIBRARY = -1;
    private static final int ORDINALS = 100;

    private static final int KINDS = 3;
    private static final int ABSOLUTE = 0;
    private static final int RELATIVE = 1;
    private static final int DISTANT = 2;

    /** The sections by number; the parts of an object bear the numbers of the first two. */
    private static final int CODE = 0;
    private static final int DATA = 1;
    private static final int IMPORTS = 2;
    private static final int EXPORTS = 3;
    private static final int RELOCATIONS = 4;
    private static final int SECTIONS = 5;

    private static final int BASE = 4096;
    private static final int UNIT = 64;
    private static final int HEADER_SIZE = 64;
    private static final int MAGIC = 77 + 256 * 90;
    private static final int MAGIC_AT = 0;
    private static final int SECTION_COUNT_AT = 4;
    private static final int BASE_AT = 8;
    private static final int SIZE_AT = 12;
    private static final int ENTRY_AT = 16;
    private static final int CHECKSUM_AT = 20;
    private static final int SECTION_TABLE_AT = 24;

    /**
     * No image is longer: header 64, code and data 192 each (four parts of 40), imports 128 (five
     * pairs, sixteen slots, four ends), exports 192 (a word and sixteen pairs), relocations 128
     * (six blocks with 32 entries among them).
     */
    private static final int IMAGE_LIMIT = 896;

    private static final int BY_ORDINAL = 1 << 31;
    private static final int ENTRY_MARK = 3;
    private static final int ENTRY_SHIFT = 12;
    private static final int ENTRY_MASK = (1 << ENTRY_SHIFT) - 1;

    private static final int ADDRESS_LIMIT = 1073741824;

    private static final int FINE = 0;
    private static final int WRONG_HEADER = 1;
    private static final int WRONG_CHECKSUM = 2;
    private static final int MALFORMED = 3;
    private static final int NOT_OFFERED = 4;

    private final ObjectFile[] objects = new ObjectFile[OBJECTS];
    private final Name[] names = new Name[NAMES];
    /** By library and ordinal; 0 is no offer. */
    private final int[][] offers = new int[LIBRARIES][ORDINALS];
    private final Image linked = new Image();
    private final Linker linker = new Linker();
    private final Loader loader = new Loader();

    public ImageForge() {
        for (int i = 0; i < OBJECTS; i++) {
            objects[i] = new ObjectFile();
        }
        for (int i = 0; i < NAMES; i++) {
            names[i] = new Name();
        }
    }

    public int put(int object, int part, long v, int n)
            throws IllegalArgumentException, IllegalStateException {
        if (!isBelow(object, OBJECTS) || !isBelow(part, PARTS) || n < 1 || n > 8) {
            throw new IllegalArgumentException("no such object or part, or n is not 1 .. 8");
        }
        Part target = objects[object].parts[part];
        if (target.size + n > PART_LIMIT) {
            throw new IllegalStateException("the part would have more than 40 bytes");
        }
        target.append(v, n);
        return target.size;
    }

    public void define(int object, int name, int part, int place)
            throws IllegalArgumentException, IllegalStateException {
        if (!isBelow(object, OBJECTS) || !isBelow(name, NAMES) || !isBelow(part, PARTS)) {
            throw new IllegalArgumentException("no such object, name or part");
        }
        ObjectFile target = objects[object];
        if (place < 0 || place > target.parts[part].size) {
            throw new IllegalArgumentException("the place is not 0 .. the part's size");
        }
        if (target.definitions >= DEFINITION_LIMIT) {
            throw new IllegalStateException("the object has 6 definitions");
        }
        target.definitions++;
        names[name].defineAt(object, part, place);
    }

    public void refer(int object, int part, int place, int kind, int name)
            throws IllegalArgumentException, IllegalStateException {
        if (!isBelow(object, OBJECTS) || !isBelow(part, PARTS)
                || !isBelow(kind, KINDS) || !isBelow(name, NAMES)) {
            throw new IllegalArgumentException("no such object, part, kind or name");
        }
        ObjectFile target = objects[object];
        if (!target.parts[part].holdsWord(place) || target.overlaps(part, place)) {
            throw new IllegalArgumentException("the word is not all in the part, or not free");
        }
        if (target.references.size() >= REFERENCE_LIMIT) {
            throw new IllegalStateException("the object has 8 references");
        }
        target.references.add(new Reference(part, place, kind, name));
    }

    public void imported(int name, int library, int ordinal) throws IllegalArgumentException {
        boolean taken = library != NO_LIBRARY;
        if (!isBelow(name, NAMES) || (taken && !isSlot(library, ordinal))) {
            throw new IllegalArgumentException("no such name, library or ordinal");
        }
        names[name].library = library;
        names[name].ordinal = ordinal;
    }

    public void exported(int name, boolean is) throws IllegalArgumentException {
        if (!isBelow(name, NAMES)) {
            throw new IllegalArgumentException("no such name");
        }
        names[name].exported = is;
    }

    public int link() throws IllegalStateException, NoSuchElementException {
        if (someNameClashes()) {
            throw new IllegalStateException("a name is defined twice, or defined and imported");
        }
        if (someExportLacks() || someReferenceLacks()) {
            throw new NoSuchElementException("a name is meant or exported that is not there");
        }
        linker.build(objects, names, linked);
        return linked.size;
    }

    public int image(int i) throws NoSuchElementException {
        if (!isBelow(i, linked.size)) {
            throw new NoSuchElementException("no such byte");
        }
        return linked.byteAt(i);
    }

    public void spoil(int i, int mask) throws NoSuchElementException {
        if (!isBelow(i, linked.size)) {
            throw new NoSuchElementException("no such byte");
        }
        linked.setByte(i, linked.byteAt(i) ^ mask);
    }

    public int seal() throws IllegalStateException {
        if (linked.isNone()) {
            throw new IllegalStateException("no image");
        }
        int sum = linked.checksum();
        linked.setWord(CHECKSUM_AT, sum);
        return sum;
    }

    public void offer(int library, int ordinal, int address) throws IllegalArgumentException {
        if (!isSlot(library, ordinal)) {
            throw new IllegalArgumentException("no such library or ordinal");
        }
        offers[library][ordinal] = address;
    }

    public int load(int address) throws IllegalArgumentException, IllegalStateException {
        if (address < 0 || address > ADDRESS_LIMIT || address % UNIT != 0) {
            throw new IllegalArgumentException("not a multiple of 64 from 0 to 1073741824");
        }
        if (linked.isNone()) {
            throw new IllegalStateException("no image");
        }
        return loader.bring(linked, offers, address);
    }

    public int at(int address) {
        return loader.byteAt(address);
    }

    public int find(int name) {
        return loader.addressOf(name);
    }

    private static boolean isBelow(int number, int limit) {
        return number >= 0 && number < limit;
    }

    private static boolean isSlot(int library, int ordinal) {
        return isBelow(library, LIBRARIES) && isBelow(ordinal, ORDINALS);
    }

    private static int roundUp(int place, int step) {
        return (place + step - 1) / step * step;
    }

    private boolean someNameClashes() {
        for (Name name : names) {
            if (name.definitions > 1 || (name.isDefined() && name.isImported())) {
                return true;
            }
        }
        return false;
    }

    private boolean someExportLacks() {
        for (Name name : names) {
            if (name.exported && !name.isDefined()) {
                return true;
            }
        }
        return false;
    }

    private boolean someReferenceLacks() {
        for (ObjectFile object : objects) {
            for (int i = 0; i < object.references.size(); i++) {
                Name meant = names[object.references.get(i).name()];
                if (!meant.isDefined() && !meant.isImported()) {
                    return true;
                }
            }
        }
        return false;
    }

    /** What has been said of a name. */
    private static final class Name {
        private int definitions;
        /** Of the last definition alone: with more than one, nothing is linked. */
        private int object;
        private int part;
        private int place;
        private int library = NO_LIBRARY;
        private int ordinal;
        private boolean exported;

        private void defineAt(int inObject, int inPart, int atPlace) {
            definitions++;
            object = inObject;
            part = inPart;
            place = atPlace;
        }

        private boolean isDefined() {
            return definitions > 0;
        }

        private boolean isImported() {
            return library != NO_LIBRARY;
        }
    }

    /** A word of an object's part that means a name. */
    private record Reference(int part, int place, int kind, int name) {
    }

    /** The bytes of one part of an object. */
    private static final class Part {
        private final byte[] bytes = new byte[PART_LIMIT];
        private int size;

        private void append(long v, int n) {
            for (int i = 0; i < n; i++) {
                bytes[size + i] = (byte) (v >> (8 * i));
            }
            size += n;
        }

        private boolean holdsWord(int place) {
            return place >= 0 && place <= size - WORD;
        }
    }

    /** One object: its parts and its references; its definitions are kept with the names. */
    private static final class ObjectFile {
        private final Part[] parts = {new Part(), new Part()};
        private final ArrayList<Reference> references = new ArrayList<>();
        private int definitions;

        private boolean overlaps(int part, int place) {
            for (int i = 0; i < references.size(); i++) {
                Reference other = references.get(i);
                if (other.part() == part && Math.abs(other.place() - place) < WORD) {
                    return true;
                }
            }
            return false;
        }
    }

    /** The bytes of an image; of size 0 when there is none. */
    private static final class Image {
        private final byte[] bytes = new byte[IMAGE_LIMIT];
        private int size;

        private boolean isNone() {
            return size == 0;
        }

        private void clear() {
            Arrays.fill(bytes, (byte) 0);
        }

        private void copyFrom(Image other) {
            System.arraycopy(other.bytes, 0, bytes, 0, other.size);
            size = other.size;
        }

        private int byteAt(int place) {
            return bytes[place] & 255;
        }

        private void setByte(int place, int value) {
            bytes[place] = (byte) value;
        }

        private int halfAt(int place) {
            return (bytes[place] & 255) | ((bytes[place + 1] & 255) << 8);
        }

        private void setHalf(int place, int value) {
            bytes[place] = (byte) value;
            bytes[place + 1] = (byte) (value >> 8);
        }

        private int wordAt(int place) {
            return (bytes[place] & 255) | ((bytes[place + 1] & 255) << 8)
                    | ((bytes[place + 2] & 255) << 16) | ((bytes[place + 3] & 255) << 24);
        }

        private void setWord(int place, int value) {
            for (int i = 0; i < WORD; i++) {
                bytes[place + i] = (byte) (value >> (8 * i));
            }
        }

        private void addToWord(int place, int value) {
            setWord(place, wordAt(place) + value);
        }

        /** Takes a long: a spoiled multiple and an entry's place may go beyond every int. */
        private boolean holdsWord(long place) {
            return place >= 0 && place <= size - WORD;
        }

        private int sectionBegin(int section) {
            return wordAt(SECTION_TABLE_AT + section * PAIR);
        }

        private int sectionSize(int section) {
            return wordAt(SECTION_TABLE_AT + section * PAIR + WORD);
        }

        private void setSection(int section, int begin, int bytesInIt) {
            setWord(SECTION_TABLE_AT + section * PAIR, begin);
            setWord(SECTION_TABLE_AT + section * PAIR + WORD, bytesInIt);
        }

        private boolean holdsSection(int section) {
            int begin = sectionBegin(section);
            int length = sectionSize(section);
            return begin >= 0 && length >= 0 && (long) begin + length <= size;
        }

        private int checksum() {
            int sum = 0;
            for (int place = 0; place < size; place += HALF) {
                if (place < CHECKSUM_AT || place >= CHECKSUM_AT + WORD) {
                    sum += halfAt(place);
                    sum = (sum & 65535) + (sum >> 16);
                }
            }
            return sum + size;
        }
    }

    /** Builds an image out of objects and names that have been found fit to be linked. */
    private static final class Linker {
        /** Where a name is in the image: its definition, or its slot. */
        private final int[] placeOfName = new int[NAMES];
        private final int[][] placeOfPart = new int[PARTS][OBJECTS];
        /** The places at which an ABSOLUTE word begins: so they come out in order. */
        private final boolean[] absolute = new boolean[IMAGE_LIMIT];

        private void build(ObjectFile[] objects, Name[] names, Image image) {
            image.clear();
            int begin = HEADER_SIZE;
            begin = endSection(image, CODE, begin, writeParts(objects, CODE, image, begin));
            begin = endSection(image, DATA, begin, writeParts(objects, DATA, image, begin));
            placeDefinitions(names);
            begin = endSection(image, IMPORTS, begin, writeImports(names, image, begin));
            begin = endSection(image, EXPORTS, begin, writeExports(names, image, begin));
            writeReferences(objects, image);
            begin = endSection(image, RELOCATIONS, begin, writeRelocations(image, begin));
            image.size = begin;
            writeHeader(names, image);
        }

        /** Answers where the next section begins. */
        private int endSection(Image image, int section, int begin, int end) {
            image.setSection(section, begin, end - begin);
            return roundUp(end, UNIT);
        }

        private int writeParts(ObjectFile[] objects, int part, Image image, int begin) {
            int end = begin;
            for (int i = 0; i < OBJECTS; i++) {
                Part from = objects[i].parts[part];
                int place = roundUp(end, WORD);
                placeOfPart[part][i] = place;
                System.arraycopy(from.bytes, 0, image.bytes, place, from.size);
                // An empty part must not draw its rounding into the section's size.
                end = from.size == 0 ? end : place + from.size;
            }
            return end;
        }

        private void placeDefinitions(Name[] names) {
            for (int i = 0; i < NAMES; i++) {
                Name name = names[i];
                placeOfName[i] = placeOfPart[name.part][name.object] + name.place;
            }
        }

        private int writeImports(Name[] names, Image image, int begin) {
            int used = countLibraries(names);
            if (used == 0) {
                return begin;
            }
            int pair = begin;
            int slots = begin + (used + 1) * PAIR;
            for (int library = 0; library < LIBRARIES; library++) {
                int end = writeSlots(names, library, image, slots);
                if (end != slots) {
                    image.setWord(pair, library + 1);
                    image.setWord(pair + WORD, slots);
                    pair += PAIR;
                    slots = end + WORD;
                }
            }
            return slots;
        }

        private int countLibraries(Name[] names) {
            int seen = 0;
            for (Name name : names) {
                if (name.isImported()) {
                    seen |= 1 << name.library;
                }
            }
            return Integer.bitCount(seen);
        }

        /** Answers where the library's slots end: where they begin, if it has none. */
        private int writeSlots(Name[] names, int library, Image image, int begin) {
            int slot = begin;
            for (int i = 0; i < NAMES; i++) {
                if (names[i].library == library) {
                    image.setWord(slot, names[i].ordinal | BY_ORDINAL);
                    placeOfName[i] = slot;
                    slot += WORD;
                }
            }
            return slot;
        }

        private int writeExports(Name[] names, Image image, int begin) {
            int count = 0;
            int pair = begin + WORD;
            for (int i = 0; i < NAMES; i++) {
                if (names[i].exported) {
                    image.setWord(pair, i);
                    image.setWord(pair + WORD, placeOfName[i]);
                    pair += PAIR;
                    count++;
                }
            }
            if (count == 0) {
                return begin;
            }
            image.setWord(begin, count);
            return pair;
        }

        private void writeReferences(ObjectFile[] objects, Image image) {
            for (int i = 0; i < IMAGE_LIMIT; i++) {
                absolute[i] = false;
            }
            for (int i = 0; i < OBJECTS; i++) {
                ArrayList<Reference> references = objects[i].references;
                for (int j = 0; j < references.size(); j++) {
                    Reference reference = references.get(j);
                    int place = placeOfPart[reference.part()][i] + reference.place();
                    image.addToWord(place, amountFor(reference, place));
                    absolute[place] = reference.kind() == ABSOLUTE;
                }
            }
        }

        private int amountFor(Reference reference, int ownPlace) {
            int meant = placeOfName[reference.name()];
            switch (reference.kind()) {
                case ABSOLUTE:
                    return BASE + meant;
                case RELATIVE:
                    return meant - (ownPlace + WORD);
                case DISTANT:
                default:
                    return meant;
            }
        }

        private int writeRelocations(Image image, int begin) {
            int end = begin;
            for (int multiple = 0; multiple < begin; multiple += UNIT) {
                end = writeBlock(image, multiple, end);
            }
            return end;
        }

        /** Answers where the block ends: where it begins, if it would have no entry. */
        private int writeBlock(Image image, int multiple, int begin) {
            int end = begin + PAIR;
            int count = 0;
            for (int i = 0; i < UNIT; i++) {
                if (absolute[multiple + i]) {
                    image.setHalf(end, i | (ENTRY_MARK << ENTRY_SHIFT));
                    end += HALF;
                    count++;
                }
            }
            if (count == 0) {
                return begin;
            }
            end += count % 2 * HALF;
            image.setWord(begin, multiple);
            image.setWord(begin + WORD, end - begin);
            return end;
        }

        private void writeHeader(Name[] names, Image image) {
            image.setWord(MAGIC_AT, MAGIC);
            image.setWord(SECTION_COUNT_AT, SECTIONS);
            image.setWord(BASE_AT, BASE);
            image.setWord(SIZE_AT, image.size);
            image.setWord(ENTRY_AT, names[0].isDefined() ? placeOfName[0] : 0);
            image.setWord(CHECKSUM_AT, image.checksum());
        }
    }

    /** Loads images, and answers what is in the one that is loaded. */
    private static final class Loader {
        private Image loaded = new Image();
        /** What becomes the loaded image, if nothing is wrong to the end. */
        private Image draft = new Image();
        private int loadedAt;
        /** Kept, since a relocation may change the header of what is loaded. */
        private int exportsBegin;
        private int exportsSize;

        private int bring(Image image, int[][] offers, int address) {
            draft.copyFrom(image);
            int wrong = prepare(image, offers, address);
            if (wrong == FINE) {
                Image old = loaded;
                loaded = draft;
                draft = old;
                loadedAt = address;
                exportsBegin = image.sectionBegin(EXPORTS);
                exportsSize = image.sectionSize(EXPORTS);
            }
            return wrong;
        }

        /** Reads the image and changes the draft alone; answers what is wrong first. */
        private int prepare(Image image, int[][] offers, int address) {
            if (!hasHeader(image)) {
                return WRONG_HEADER;
            }
            if (image.wordAt(CHECKSUM_AT) != image.checksum()) {
                return WRONG_CHECKSUM;
            }
            if (!holdsSections(image) || !relocate(image, address - image.wordAt(BASE_AT))) {
                return MALFORMED;
            }
            return image.sectionSize(IMPORTS) == 0 ? FINE : bind(image, offers);
        }

        private boolean hasHeader(Image image) {
            return image.wordAt(MAGIC_AT) == MAGIC
                    && image.wordAt(SECTION_COUNT_AT) == SECTIONS
                    && image.wordAt(SIZE_AT) == image.size;
        }

        private boolean holdsSections(Image image) {
            for (int section = 0; section < SECTIONS; section++) {
                if (!image.holdsSection(section)) {
                    return false;
                }
            }
            return true;
        }

        private boolean relocate(Image image, int shift) {
            int block = image.sectionBegin(RELOCATIONS);
            int end = block + image.sectionSize(RELOCATIONS);
            while (block < end) {
                if (end - block < PAIR) {
                    return false;
                }
                int length = image.wordAt(block + WORD);
                if (length < PAIR || length % HALF != 0 || length > end - block) {
                    return false;
                }
                if (!relocateBlock(image, block, block + length, shift)) {
                    return false;
                }
                block += length;
            }
            return true;
        }

        private boolean relocateBlock(Image image, int block, int end, int shift) {
            int multiple = image.wordAt(block);
            if (multiple < 0 || multiple % UNIT != 0) {
                return false;
            }
            for (int at = block + PAIR; at < end; at += HALF) {
                int entry = image.halfAt(at);
                int mark = entry >> ENTRY_SHIFT;
                if (mark == ENTRY_MARK) {
                    long place = (long) multiple + (entry & ENTRY_MASK);
                    if (!image.holdsWord(place)) {
                        return false;
                    }
                    draft.addToWord((int) place, shift);
                } else if (mark != 0) {
                    return false;
                }
            }
            return true;
        }

        private int bind(Image image, int[][] offers) {
            int begin = image.sectionBegin(IMPORTS);
            int last = begin + image.sectionSize(IMPORTS) - PAIR;
            for (int pair = begin; pair <= last; pair += PAIR) {
                int number = image.wordAt(pair);
                if (number == 0) {
                    return FINE;
                }
                if (number < 1 || number > LIBRARIES) {
                    return MALFORMED;
                }
                int wrong = bindSlots(image, image.wordAt(pair + WORD), offers[number - 1]);
                if (wrong != FINE) {
                    return wrong;
                }
            }
            return MALFORMED;
        }

        private int bindSlots(Image image, int first, int[] offered) {
            int last = image.size - WORD;
            for (int slot = first; slot >= 0 && slot <= last; slot += WORD) {
                int word = image.wordAt(slot);
                if (word == 0) {
                    return FINE;
                }
                int ordinal = word ^ BY_ORDINAL;
                if (!isBelow(ordinal, ORDINALS)) {
                    return MALFORMED;
                }
                if (offered[ordinal] == 0) {
                    return NOT_OFFERED;
                }
                draft.setWord(slot, offered[ordinal]);
            }
            return MALFORMED;
        }

        private int byteAt(int address) {
            if (address < loadedAt || address - loadedAt >= loaded.size) {
                return -1;
            }
            return loaded.byteAt(address - loadedAt);
        }

        private int addressOf(int name) {
            if (exportsSize < WORD) {
                return 0;
            }
            int count = loaded.wordAt(exportsBegin);
            int pair = exportsBegin + WORD;
            int last = exportsBegin + exportsSize - PAIR;
            for (int i = 0; i < count && pair <= last; i++) {
                if (loaded.wordAt(pair) == name) {
                    return loadedAt + loaded.wordAt(pair + WORD);
                }
                pair += PAIR;
            }
            return 0;
        }
    }
}
