import java.nio.ByteBuffer;
import java.nio.ByteOrder;
import java.util.ArrayList;
import java.util.Arrays;
import java.util.List;
import java.util.NoSuchElementException;
import java.util.Map;
import java.util.TreeMap;
import java.util.TreeSet;

/**
 * The document written a second time, with the Java library and without regard to the program's
 * own way: its answers are what RandomRunsTest holds the program to.
 */
final class Model {
    record Definition(int object, int name, int part, int place) { }

    record Reference(int object, int part, int place, int kind, int name) { }

    record Source(int library, int ordinal) { }

    private static final class Refused extends Exception {
        private static final long serialVersionUID = 1L;
        final int number;

        Refused(int number) {
            this.number = number;
        }
    }

    private final byte[][][] parts = new byte[4][2][0];
    private final List<Definition> definitions = new ArrayList<>();
    private final List<Reference> references = new ArrayList<>();
    private final TreeMap<Integer, Source> imports = new TreeMap<>();
    private final TreeSet<Integer> exports = new TreeSet<>();
    private final Map<Source, Integer> offers = new TreeMap<>(
        (a, b) -> a.library() != b.library() ? a.library() - b.library() : a.ordinal() - b.ordinal());
    private byte[] image = null;
    private byte[] memory = new byte[0];
    private int memoryAt = 0;
    private byte[] imageThatWasLoaded = null;

    int put(int object, int part, long v, int n) {
        need(in(object, 0, 3) && in(part, 0, 1) && in(n, 1, 8));
        byte[] old = parts[object][part];
        if (old.length + n > 40) {
            throw new IllegalStateException();
        }
        byte[] more = words(8).putLong(0, v).array();
        byte[] now = Arrays.copyOf(old, old.length + n);
        System.arraycopy(more, 0, now, old.length, n);
        parts[object][part] = now;
        return now.length;
    }

    void define(int object, int name, int part, int place) {
        need(in(object, 0, 3) && in(name, 0, 15) && in(part, 0, 1));
        need(in(place, 0, parts[object][part].length));
        if (definitions.stream().filter(d -> d.object() == object).count() == 6) {
            throw new IllegalStateException();
        }
        definitions.add(new Definition(object, name, part, place));
    }

    void refer(int object, int part, int place, int kind, int name) {
        need(in(object, 0, 3) && in(part, 0, 1) && in(kind, 0, 2) && in(name, 0, 15));
        need(place >= 0 && place + 4L <= parts[object][part].length);
        for (Reference r : references) {
            boolean apart = r.place() + 4 <= place || place + 4 <= r.place();
            need(r.object() != object || r.part() != part || apart);
        }
        if (references.stream().filter(r -> r.object() == object).count() == 8) {
            throw new IllegalStateException();
        }
        references.add(new Reference(object, part, place, kind, name));
    }

    void imported(int name, int library, int ordinal) {
        need(in(name, 0, 15) && in(library, -1, 3));
        if (library == -1) {
            imports.remove(name);
            return;
        }
        need(in(ordinal, 0, 99));
        imports.put(name, new Source(library, ordinal));
    }

    void exported(int name, boolean is) {
        need(in(name, 0, 15));
        if (is) {
            exports.add(name);
        } else {
            exports.remove(name);
        }
    }

    int link() {
        TreeMap<Integer, Definition> defined = new TreeMap<>();
        for (Definition d : definitions) {
            if (defined.put(d.name(), d) != null || imports.containsKey(d.name())) {
                throw new IllegalStateException();
            }
        }
        for (Reference r : references) {
            if (!defined.containsKey(r.name()) && !imports.containsKey(r.name())) {
                throw new NoSuchElementException();
            }
        }
        if (!defined.keySet().containsAll(exports)) {
            throw new NoSuchElementException();
        }
        image = make(defined);
        return image.length;
    }

    private byte[] make(TreeMap<Integer, Definition> defined) {
        ByteBuffer out = words(4096);
        int[] begins = new int[5];
        int[] ends = new int[5];
        int[][] partAt = new int[4][2];
        TreeMap<Integer, Integer> placeOf = new TreeMap<>();
        out.position(64);
        for (int part = 0; part < 2; part++) {
            begins[part] = out.position();
            ends[part] = begins[part];
            for (int object = 0; object < 4; object++) {
                out.position((out.position() + 3) & ~3);
                partAt[object][part] = out.position();
                out.put(parts[object][part]);
                if (parts[object][part].length > 0) {
                    ends[part] = out.position();
                }
            }
            out.position(up(ends[part]));
        }
        for (Definition d : defined.values()) {
            placeOf.put(d.name(), partAt[d.object()][d.part()] + d.place());
        }
        begins[2] = out.position();
        makeImports(out, placeOf);
        ends[2] = out.position();
        out.position(up(ends[2]));
        begins[3] = out.position();
        if (!exports.isEmpty()) {
            out.putInt(exports.size());
            for (int name : exports) {
                out.putInt(name).putInt(placeOf.get(name));
            }
        }
        ends[3] = out.position();
        out.position(up(ends[3]));
        TreeMap<Integer, TreeSet<Integer>> blocks = new TreeMap<>();
        for (Reference r : references) {
            int at = partAt[r.object()][r.part()] + r.place();
            int before = out.getInt(at);
            int meant = placeOf.get(r.name());
            out.putInt(at, before + meant + (r.kind() == 0 ? 4096 : r.kind() == 1 ? -at - 4 : 0));
            if (r.kind() == 0) {
                blocks.computeIfAbsent(at / 64 * 64, k -> new TreeSet<>()).add(at % 64);
            }
        }
        begins[4] = out.position();
        blocks.forEach((multiple, places) -> {
            int odd = places.size() % 2;
            out.putInt(multiple).putInt(8 + 2 * places.size() + 2 * odd);
            places.forEach(p -> out.putShort((short) (12288 + p)));
            if (odd == 1) {
                out.putShort((short) 0);
            }
        });
        ends[4] = out.position();
        int size = up(ends[4]);
        out.put(0, (byte) 77).put(1, (byte) 90);
        out.putInt(4, 5).putInt(8, 4096).putInt(12, size);
        out.putInt(16, defined.containsKey(0) ? placeOf.get(0) : 0);
        for (int i = 0; i < 5; i++) {
            out.putInt(24 + 8 * i, begins[i]).putInt(28 + 8 * i, ends[i] - begins[i]);
        }
        byte[] made = Arrays.copyOf(out.array(), size);
        view(made).putInt(20, sum(made));
        return made;
    }

    private void makeImports(ByteBuffer out, TreeMap<Integer, Integer> placeOf) {
        TreeMap<Integer, TreeSet<Integer>> byLibrary = new TreeMap<>();
        imports.forEach((name, from) -> byLibrary.computeIfAbsent(from.library(), k -> new TreeSet<>()).add(name));
        if (byLibrary.isEmpty()) {
            return;
        }
        int slot = out.position() + 8 * byLibrary.size() + 8;
        for (int library : byLibrary.keySet()) {
            out.putInt(library + 1).putInt(slot);
            slot += 4 * byLibrary.get(library).size() + 4;
        }
        out.putLong(0);
        for (TreeSet<Integer> names : byLibrary.values()) {
            for (int name : names) {
                placeOf.put(name, out.position());
                out.putInt(0x80000000 + imports.get(name).ordinal());
            }
            out.putInt(0);
        }
    }

    int image(int i) {
        has(image != null && in(i, 0, image.length - 1));
        return image[i] & 0xFF;
    }

    void spoil(int i, int mask) {
        has(image != null && in(i, 0, image.length - 1));
        image[i] ^= (byte) mask;
    }

    int seal() {
        if (image == null) {
            throw new IllegalStateException();
        }
        view(image).putInt(20, sum(image));
        return view(image).getInt(20);
    }

    void offer(int library, int ordinal, int address) {
        need(in(library, 0, 3) && in(ordinal, 0, 99));
        if (address == 0) {
            offers.remove(new Source(library, ordinal));
        } else {
            offers.put(new Source(library, ordinal), address);
        }
    }

    int load(int address) {
        need(address >= 0 && address <= 1073741824 && address % 64 == 0);
        if (image == null) {
            throw new IllegalStateException();
        }
        byte[] copy = image.clone();
        try {
            change(view(image), view(copy), address);
        } catch (Refused wrong) {
            return wrong.number;
        }
        memory = copy;
        memoryAt = address;
        imageThatWasLoaded = image.clone();
        return 0;
    }

    private void change(ByteBuffer in, ByteBuffer copy, int address) throws Refused {
        refuse(1, in.getInt(0) != 0x5A4D || in.getInt(4) != 5 || in.getInt(12) != image.length);
        refuse(2, in.getInt(20) != sum(image));
        for (int i = 24; i < 64; i += 8) {
            long begin = in.getInt(i);
            long size = in.getInt(i + 4);
            refuse(3, begin < 0 || size < 0 || begin + size > image.length);
        }
        int at = in.getInt(56);
        int left = in.getInt(60);
        while (left > 0) {
            refuse(3, left < 8);
            int multiple = in.getInt(at);
            int bytes = in.getInt(at + 4);
            refuse(3, bytes < 8 || (bytes & 1) == 1 || bytes > left);
            refuse(3, multiple < 0 || (multiple & 63) != 0);
            for (int i = 8; i < bytes; i += 2) {
                int entry = in.getShort(at + i) & 0xFFFF;
                refuse(3, entry / 4096 != 0 && entry / 4096 != 3);
                if (entry / 4096 == 3) {
                    long place = (long) multiple + entry % 4096;
                    refuse(3, place + 4 > image.length);
                    copy.putInt((int) place, copy.getInt((int) place) + address - in.getInt(8));
                }
            }
            at += bytes;
            left -= bytes;
        }
        if (in.getInt(44) > 0) {
            bind(in, copy, in.getInt(40), in.getInt(40) + in.getInt(44));
        }
    }

    private void bind(ByteBuffer in, ByteBuffer copy, int begin, int end) throws Refused {
        int pair = begin;
        while (true) {
            refuse(3, pair + 8 > end);
            long number = in.getInt(pair);
            if (number == 0) {
                return;
            }
            refuse(3, number < 1 || number > 4);
            long slot = in.getInt(pair + 4);
            while (true) {
                refuse(3, slot < 0 || slot + 4 > image.length);
                long word = in.getInt((int) slot) & 0xFFFFFFFFL;
                if (word == 0) {
                    break;
                }
                refuse(3, word < 0x80000000L || word > 0x80000000L + 99);
                Source wanted = new Source((int) number - 1, (int) (word - 0x80000000L));
                refuse(4, !offers.containsKey(wanted));
                copy.putInt((int) slot, offers.get(wanted));
                slot += 4;
            }
            pair += 8;
        }
    }

    int at(int address) {
        long i = (long) address - memoryAt;
        return i >= 0 && i < memory.length ? memory[(int) i] & 0xFF : -1;
    }

    int find(int name) {
        if (imageThatWasLoaded == null) {
            return 0;
        }
        int begin = view(imageThatWasLoaded).getInt(48);
        int size = view(imageThatWasLoaded).getInt(52);
        if (size < 4) {
            return 0;
        }
        int pairs = Math.min(view(memory).getInt(begin), (size - 4) / 8);
        for (int i = 0; i < pairs; i++) {
            if (view(memory).getInt(begin + 4 + 8 * i) == name) {
                return memoryAt + view(memory).getInt(begin + 8 + 8 * i);
            }
        }
        return 0;
    }

    private static int sum(byte[] bytes) {
        long s = 0;
        for (int i = 0; i < bytes.length; i += 2) {
            if (i != 20 && i != 22) {
                s += view(bytes).getShort(i) & 0xFFFF;
                s = s % 65536 + s / 65536;
            }
        }
        return (int) (s + bytes.length);
    }

    private static ByteBuffer view(byte[] bytes) {
        return ByteBuffer.wrap(bytes).order(ByteOrder.LITTLE_ENDIAN);
    }

    private static ByteBuffer words(int bytes) {
        return view(new byte[bytes]);
    }

    private static int up(int place) {
        return (place + 63) & ~63;
    }

    private static boolean in(int number, int from, int to) {
        return number >= from && number <= to;
    }

    private static void need(boolean holds) {
        if (!holds) {
            throw new IllegalArgumentException();
        }
    }

    private static void has(boolean holds) {
        if (!holds) {
            throw new NoSuchElementException();
        }
    }

    private static void refuse(int number, boolean when) throws Refused {
        if (when) {
            throw new Refused(number);
        }
    }
}
