import java.util.Random;

/**
 * Random runs, the same each time, on the program and on Model: every answer and every exception
 * must be the same. No run is longer than the document's 512 calls.
 */
public final class RandomRunsTest {
    private static final int RUNS = 6000;
    private static final int CALLS = 512;
    private static final int[] WORDS = {
        0, 1, 2, 3, 4, 5, 6, 7, 8, 9, 10, 12, 16, 60, 62, 63, 64, 65, 66, 100, 128, 192, 256, 320, 4096,
        -1, -4, -8, -64, 1 << 31, (1 << 31) + 5, (1 << 31) + 99, (1 << 31) + 100, 0x7FFFFFC0, 0x7FFFFFFF,
        0x3000, 0x3FFF, 0x303C3004};

    private final Random random;
    private final int run;
    private final ImageForge program = new ImageForge();
    private final Model model = new Model();
    private int calls = 0;
    private int size = 0;
    private int lastAddress = 0;
    /** A tame run makes no mistakes before it links, so that much is linked and loaded. */
    private final boolean tame;

    private static final int[] outcomes = new int[5];

    private RandomRunsTest(int run) {
        this.run = run;
        this.random = new Random(run);
        this.tame = run % 4 != 0;
    }

    public static void main(String[] args) {
        for (int run = 0; run < RUNS; run++) {
            new RandomRunsTest(run).go();
        }
        for (int outcome = 0; outcome < 5; outcome++) {
            Expect.that("load often answers " + outcome, outcomes[outcome] > 500);
        }
        System.out.println("loads by answer: " + java.util.Arrays.toString(outcomes));
        Expect.end();
    }

    private interface Call {
        long answer();
    }

    private static String outcome(Call call) {
        try {
            return String.valueOf(call.answer());
        } catch (RuntimeException e) {
            return e.getClass().getSimpleName();
        }
    }

    private String both(String what, Call first, Call second) {
        if (calls >= CALLS) {
            return "";
        }
        calls++;
        String got = outcome(first);
        String want = outcome(second);
        if (!got.equals(want)) {
            Expect.that("run " + run + ", call " + calls + ": " + what + " answered " + got + ", due is " + want, false);
        }
        return want;
    }

    private void go() {
        int rounds = 1 + random.nextInt(3);
        for (int round = 0; round < rounds; round++) {
            for (int i = random.nextInt(50); i > 0; i--) {
                say();
            }
            linkAndLook();
            for (int i = random.nextInt(8); i > 0; i--) {
                harm();
                load();
            }
        }
        while (calls < CALLS) {
            look();
        }
    }

    private int pick(int below) {
        return tame || random.nextInt(12) != 0 ? random.nextInt(below) : random.nextInt(4) == 0 ? -1 : below + random.nextInt(2);
    }

    private void say() {
        switch (random.nextInt(tame ? 13 : 16)) {
            case 0, 1, 2, 3, 4 -> put(pick(4), pick(2), random.nextLong(), pick(8) + 1);
            case 5, 6, 7 -> define(pick(4), tame ? calls % 12 : pick(16), pick(2), pick(20));
            case 8, 9, 10 -> refer(pick(4), pick(2), pick(40), pick(3), tame ? random.nextInt(14) : pick(16));
            case 11, 13 -> {
                int name = tame ? 12 + random.nextInt(4) : pick(16);
                int library = random.nextInt(6) == 0 ? -1 : pick(4);
                int ordinal = random.nextInt(5) == 0 ? pick(100) : pick(3);
                both("imported(" + name + ", " + library + ", " + ordinal + ")",
                    () -> { program.imported(name, library, ordinal); return 0; },
                    () -> { model.imported(name, library, ordinal); return 0; });
            }
            case 12, 14 -> {
                int name = pick(16);
                boolean is = random.nextInt(tame ? 4 : 2) == 0;
                both("exported(" + name + ", " + is + ")",
                    () -> { program.exported(name, is); return 0; },
                    () -> { model.exported(name, is); return 0; });
            }
            default -> offer(pick(4), pick(100));
        }
    }

    private void put(int object, int part, long v, int n) {
        both("put(" + object + ", " + part + ", " + v + ", " + n + ")",
            () -> program.put(object, part, v, n), () -> model.put(object, part, v, n));
    }

    private void define(int object, int name, int part, int place) {
        both("define(" + object + ", " + name + ", " + part + ", " + place + ")",
            () -> { program.define(object, name, part, place); return 0; },
            () -> { model.define(object, name, part, place); return 0; });
    }

    private void refer(int object, int part, int place, int kind, int name) {
        both("refer(" + object + ", " + part + ", " + place + ", " + kind + ", " + name + ")",
            () -> { program.refer(object, part, place, kind, name); return 0; },
            () -> { model.refer(object, part, place, kind, name); return 0; });
    }

    private void offer(int library, int ordinal) {
        int address = random.nextInt(5) == 0 ? 0 : random.nextInt();
        both("offer(" + library + ", " + ordinal + ", " + address + ")",
            () -> { program.offer(library, ordinal, address); return 0; },
            () -> { model.offer(library, ordinal, address); return 0; });
    }

    private void linkAndLook() {
        String answer = both("link()", program::link, model::link);
        if (!answer.isEmpty() && Character.isDigit(answer.charAt(0))) {
            size = Integer.parseInt(answer);
        }
        for (int i = 0; i < 40; i++) {
            int place = random.nextInt(size + 2) - 1;
            both("image(" + place + ")", () -> program.image(place), () -> model.image(place));
        }
        if (tame) {
            for (int i = 0; i < 12; i++) {
                offer(i % 4, i / 4);
            }
        }
        load();
    }

    private void load() {
        int kind = random.nextInt(10);
        int address = kind == 0 ? random.nextInt() : kind == 1 ? 1073741824 : random.nextInt(16777216) * 64;
        String answer = both("load(" + address + ")", () -> program.load(address), () -> model.load(address));
        if (answer.equals("0")) {
            lastAddress = address;
        }
        if (answer.length() == 1) {
            outcomes[answer.charAt(0) - '0']++;
        }
        for (int i = 0; i < 8; i++) {
            look();
        }
    }

    private void look() {
        if (random.nextInt(6) == 0) {
            int name = random.nextInt(20) - 2;
            both("find(" + name + ")", () -> program.find(name), () -> model.find(name));
        } else {
            int address = random.nextInt(30) == 0 ? random.nextInt() : lastAddress + random.nextInt(size + 3) - 1;
            both("at(" + address + ")", () -> program.at(address), () -> model.at(address));
        }
    }

    /** Spoils a word of the header or of a section's beginning, or any byte; mostly seals. */
    private void harm() {
        if (size == 0) {
            spoil(random.nextInt(3) - 1, 1);
            both("seal()", program::seal, model::seal);
            return;
        }
        int way = random.nextInt(12);
        if (way == 0) {
            spoil(random.nextInt(size + 4) - 2, random.nextInt());
        } else if (way < 4) {
            setWord(8 + 4 * random.nextInt(14), someWord());
        } else if (way < 6) {
            nudge(24 + 4 * random.nextInt(10));
        } else {
            int section = 2 + random.nextInt(3);
            int begin = wordNow(24 + 8 * section);
            int length = wordNow(28 + 8 * section);
            if (begin >= 0 && length > 0 && begin <= size - 4) {
                int at = begin + random.nextInt(Math.min(length, size - begin));
                if (random.nextBoolean()) {
                    setWord(at & ~1, someWord());
                } else {
                    nudge(at & ~3);
                }
            }
        }
        if (random.nextInt(8) != 0) {
            both("seal()", program::seal, model::seal);
        }
    }

    private int someWord() {
        return random.nextInt(4) == 0 ? random.nextInt(size + 8) : WORDS[random.nextInt(WORDS.length)];
    }

    private int wordNow(int at) {
        int word = 0;
        for (int i = 3; i >= 0; i--) {
            word = (word << 8) | model.image(at + i);
        }
        return word;
    }

    private void nudge(int at) {
        if (at + 4 <= size) {
            setWord(at, wordNow(at) + (random.nextInt(9) - 4) * (random.nextBoolean() ? 1 : 4));
        }
    }

    private void setWord(int at, int word) {
        for (int i = 0; i < 4 && at + i < size; i++) {
            int mask = model.image(at + i) ^ ((word >> (8 * i)) & 255);
            if (mask != 0) {
                spoil(at + i, mask | (random.nextInt() << 8));
            }
        }
    }

    private void spoil(int at, int mask) {
        both("spoil(" + at + ", " + mask + ")",
            () -> { program.spoil(at, mask); return 0; },
            () -> { model.spoil(at, mask); return 0; });
    }
}
