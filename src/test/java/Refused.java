import java.util.ArrayList;
import java.util.List;
import java.util.NoSuchElementException;
import java.util.function.Consumer;
import java.util.function.Supplier;
import java.util.function.ToIntFunction;

/**
 * Holds a call to being refused and to changing nothing: an object that has had the call must go on
 * as its twin does that has not. No object has more than the document's 512 calls.
 */
final class Refused {
    private static final int WINDOW = 400;
    private static final int LOADED_AT = 8192;

    private interface Probe {
        void look(ImageForge forge, List<String> seen);
    }

    private static final List<Probe> PROBES = List.of(
        (forge, seen) -> image(forge, seen, 0),
        (forge, seen) -> image(forge, seen, WINDOW),
        (forge, seen) -> memory(forge, seen, LOADED_AT - 8),
        (forge, seen) -> memory(forge, seen, LOADED_AT - 8 + WINDOW),
        (forge, seen) -> memory(forge, seen, 0),
        Refused::names,
        Refused::sizes,
        Refused::definitions,
        Refused::references,
        Refused::offers,
        (forge, seen) -> {
            say(seen, "link", forge::link);
            image(forge, seen, 0);
        },
        (forge, seen) -> {
            say(seen, "link", forge::link);
            image(forge, seen, WINDOW);
        },
        (forge, seen) -> {
            say(seen, "seal", forge::seal);
            say(seen, "load", () -> forge.load(64));
            memory(forge, seen, 64);
        });

    private Refused() {
    }

    static void illegalArgument(String what, Supplier<ImageForge> setup, Consumer<ImageForge> call) {
        refused(what, setup, call, IllegalArgumentException.class);
    }

    static void illegalState(String what, Supplier<ImageForge> setup, Consumer<ImageForge> call) {
        refused(what, setup, call, IllegalStateException.class);
    }

    static void noSuchElement(String what, Supplier<ImageForge> setup, Consumer<ImageForge> call) {
        refused(what, setup, call, NoSuchElementException.class);
    }

    /** For a load that answers what is wrong, or a call that only looks. */
    static void answers(String what, int due, Supplier<ImageForge> setup, ToIntFunction<ImageForge> call) {
        twins(what, setup, forge -> outcome(() -> call.applyAsInt(forge)), String.valueOf(due));
    }

    private static void refused(String what, Supplier<ImageForge> setup, Consumer<ImageForge> call, Class<?> due) {
        twins(what, setup, forge -> outcome(() -> {
            call.accept(forge);
            return "nothing thrown";
        }), due.getSimpleName());
    }

    private interface Outcome {
        String of(ImageForge forge);
    }

    private static void twins(String what, Supplier<ImageForge> setup, Outcome call, String due) {
        for (int i = 0; i < PROBES.size(); i++) {
            ImageForge had = setup.get();
            ImageForge hadNot = setup.get();
            String got = call.of(had);
            if (!got.equals(due)) {
                Expect.that(what + " is " + due + ", but it was " + got, false);
                return;
            }
            List<String> first = new ArrayList<>();
            List<String> second = new ArrayList<>();
            PROBES.get(i).look(had, first);
            PROBES.get(i).look(hadNot, second);
            Expect.that(what + " changes nothing, but " + difference(first, second), first.equals(second));
        }
    }

    private static String difference(List<String> got, List<String> want) {
        for (int i = 0; i < got.size(); i++) {
            if (!got.get(i).equals(want.get(i))) {
                return got.get(i) + " in place of " + want.get(i);
            }
        }
        return "nothing";
    }

    private interface Answer {
        Object get();
    }

    private static String outcome(Answer call) {
        try {
            return String.valueOf(call.get());
        } catch (RuntimeException e) {
            return e.getClass().getSimpleName();
        }
    }

    private static void say(List<String> seen, String what, Answer call) {
        seen.add(what + ": " + outcome(call));
    }

    private static void silent(List<String> seen, String what, Runnable call) {
        say(seen, what, () -> {
            call.run();
            return "taken";
        });
    }

    private static void image(ImageForge forge, List<String> seen, int from) {
        for (int i = from; i < from + WINDOW; i++) {
            int place = i;
            say(seen, "image " + place, () -> forge.image(place));
        }
    }

    private static void memory(ImageForge forge, List<String> seen, int from) {
        for (int i = from; i < from + WINDOW; i++) {
            int address = i;
            say(seen, "at " + address, () -> forge.at(address));
        }
    }

    private static void names(ImageForge forge, List<String> seen) {
        for (int i = -1; i <= 16; i++) {
            int name = i;
            say(seen, "find " + name, () -> forge.find(name));
        }
        say(seen, "load", () -> forge.load(64));
        for (int i = -1; i <= 16; i++) {
            int name = i;
            say(seen, "find after a load " + name, () -> forge.find(name));
        }
    }

    private static void sizes(ImageForge forge, List<String> seen) {
        for (int i = 0; i < 8; i++) {
            int object = i / 2;
            int part = i % 2;
            say(seen, "put into " + object + ", " + part, () -> forge.put(object, part, -1, 1));
        }
        say(seen, "link", forge::link);
        image(forge, seen, 24);
    }

    private static void definitions(ImageForge forge, List<String> seen) {
        for (int i = 0; i < 28; i++) {
            int object = i / 7;
            silent(seen, "define " + i, () -> forge.define(object, 15, 0, 0));
        }
    }

    private static void references(ImageForge forge, List<String> seen) {
        for (int i = 0; i < 4 * 2 * 37; i++) {
            int object = i / 74;
            int part = i / 37 % 2;
            int place = i % 37;
            silent(seen, "refer " + i, () -> forge.refer(object, part, place, 2, 0));
        }
    }

    /** Name 15 is bound to one ordinal after the other. */
    private static void offers(ImageForge forge, List<String> seen) {
        for (int ordinal : new int[] {0, 1, 7, 98, 99}) {
            for (int i = 0; i < 4; i++) {
                int library = i;
                forge.imported(15, library, ordinal);
                say(seen, "link", forge::link);
                say(seen, "load " + library + ", " + ordinal, () -> forge.load(8192));
            }
        }
    }
}
