import java.util.ArrayList;
import java.util.List;
import java.util.NoSuchElementException;
import java.util.function.Consumer;
import java.util.function.Supplier;

/**
 * The last sentence of the terms: which exception a call throws, and that a refused call changes
 * nothing. Each refused call is made on a bench whose answers are then compared with those of a
 * twin that never got it.
 */
public final class RefusedCallsTest {
    private static final Class<IllegalArgumentException> ARGUMENT = IllegalArgumentException.class;
    private static final Class<IllegalStateException> STATE = IllegalStateException.class;
    private static final Class<IndexOutOfBoundsException> BOUNDS = IndexOutOfBoundsException.class;
    private static final Class<NoSuchElementException> ELEMENT = NoSuchElementException.class;

    private interface Answer {
        long get();
    }

    public static void main(String[] args) {
        theOneNamedFirst();
        wrongNumbersChangeNothing();
        whatIsNotThereChangesNothing();
        fullStatesChangeNothing();
        placesOfLayersChangeNothing();
        placesOfFiltersChangeNothing();
        Checks.end();
    }

    private static void theOneNamedFirst() {
        Checks.sentence("Methods throw what their comments name, the one named first when several "
                + "would do");
        CaptureBench none = new CaptureBench();
        CaptureBench full = fullBench();
        Checks.dueIllegalArgument("follow, eight followed", () -> full.follow(0, -1, 1));
        Checks.dueIllegalArgument("follow of a ninth value", () -> full.follow(0, 8, 4));
        Checks.dueIllegalArgument("frame, twelve frames", () -> full.frame(2, 0));
        Checks.dueIllegalArgument("frame, twelve frames", () -> full.frame(0, -1));
        Checks.dueIllegalArgument("frame of no byte", () -> none.frame(-1, 0));
        Checks.dueIllegalArgument("frame of no byte", () -> none.frame(0, -1));
        Checks.dueOutOfBounds("entry of no frame, what 5", () -> none.entry(0, 0, 5));
        Checks.dueOutOfBounds("no entry, what 5", () -> full.entry(0, 99, 5));
        Checks.dueOutOfBounds("entry -1, what -1", () -> full.entry(0, -1, -1));
        Checks.dueIllegalArgument("next, no filter", () -> none.next(0, -1));
        Checks.dueIllegalArgument("total, no filter, layer 4", () -> none.total(0, 4, 0, 0));
        Checks.dueIllegalArgument("total, no filter, name 9", () -> none.total(0, 0, 9, 0));
        Checks.dueIllegalArgument("total, no filter, what 4", () -> none.total(0, 0, 0, 4));
        Checks.dueOutOfBounds("no talk, what 6", () -> none.talk(0, 6));
        Checks.dueOutOfBounds("no talk behind the last, what -1", () -> full.talk(12, -1));
        Checks.dueOutOfBounds("no talk, layer 4", () -> none.stream(0, 4, 0));
        Checks.dueOutOfBounds("no talk, name 8", () -> none.stream(0, 0, 8));
        Checks.dueOutOfBounds("no talk behind the last", () -> full.stream(12, -1, -1));
        // A wrong number goes before what the draft is: neither a place nor NONE is answered.
        Checks.dueIllegalArgument("layer of no text", () -> none.layer(4));
        Checks.dueIllegalArgument("filter of no text", () -> none.filter(4));
        Checks.write(none, new int[80]);
        Checks.dueIllegalArgument("write to a full draft", () -> none.write(9, 0));
        Checks.dueIllegalArgument("frame of 80 bytes", () -> none.frame(2, 0));
    }

    /** Some of everything, and room for more. */
    private static CaptureBench busyBench(String draft) {
        CaptureBench bench = Checks.benchWith("a8b8$a>a");
        Checks.describe(bench, 1, "c8");
        bench.root(1, 1);
        bench.follow(0, 1, 1);
        bench.limit(40);
        Checks.addFrame(bench, 0, 5, 1, 2, 'x', 'y');
        Checks.addFrame(bench, 0, 7, 2, 1, 'z');
        Checks.addFrame(bench, 1, 6, 9);
        Checks.makeFilter(bench, 0, "0a=1|1c");
        Checks.makeFilter(bench, 2, "0a=2");
        Checks.due("talks", bench.talks(0, 0, 0, 1), 1);
        Checks.due("stream", bench.stream(0, 0, 0), 1);
        Checks.write(bench, draft);
        return bench;
    }

    private static CaptureBench busyBench() {
        return busyBench("\u0004\u0005");
    }

    /** No room for another frame or another followed value of layer 0. */
    private static CaptureBench fullBench() {
        CaptureBench bench = Checks.benchWith("a8$*>a");
        Checks.describe(bench, 1, "$*c8");
        for (int value = 0; value < 8; value++) {
            bench.follow(0, value, 1);
        }
        for (int k = 0; k < 12; k++) {
            Checks.addFrame(bench, 0, k, k, 'x');
        }
        Checks.makeFilter(bench, 1, "0a>3");
        Checks.due("talks", bench.talks(0, 0, 0, 0), 12);
        Checks.due("stream", bench.stream(3, 0, 0), 1);
        bench.write(1, 7);
        return bench;
    }

    private static void add(List<Long> answers, Answer answer) {
        long got;
        try {
            got = answer.get();
        } catch (IndexOutOfBoundsException e) {
            got = -1000;
        } catch (NoSuchElementException e) {
            got = -1001;
        } catch (IllegalStateException e) {
            got = -1002;
        }
        answers.add(got);
    }

    private static void addEntries(List<Long> answers, CaptureBench bench, int frame) {
        add(answers, () -> bench.decode(frame));
        for (int n = 0; n < 4; n++) {
            int k = n;
            add(answers, () -> bench.entry(frame, k, 0));
            add(answers, () -> bench.entry(frame, k, 4));
            add(answers, () -> bench.value(frame, k));
        }
    }

    /** What a bench tells of itself; what changes it comes last. */
    private static List<Long> answersOf(CaptureBench bench) {
        List<Long> answers = new ArrayList<>();
        for (int w = 0; w < 6; w++) {
            int what = w;
            add(answers, () -> bench.talk(0, what));
            add(answers, () -> bench.talk(1, what));
        }
        for (int place = 0; place < 4; place++) {
            answers.add((long) bench.streamed(place));
        }
        for (int frame = 0; frame < 13; frame++) {
            addEntries(answers, bench, frame);
        }
        for (int n = 0; n < 4; n++) {
            int filter = n;
            add(answers, () -> bench.next(filter, 0));
            add(answers, () -> bench.next(filter, 1));
            add(answers, () -> bench.total(filter, 0, 0, 1));
        }
        add(answers, () -> bench.stream(0, 0, 1));
        addDraft(answers, bench);
        addUnused(answers, bench);
        return answers;
    }

    private static void addDraft(List<Long> answers, CaptureBench bench) {
        answers.add((long) bench.layer(3));
        answers.add((long) bench.filter(3));
        bench.drop(0);
        bench.root(1, 0);
        add(answers, () -> bench.frame(1, Integer.MAX_VALUE));
        addEntries(answers, bench, 2);
        addEntries(answers, bench, 11);
        answers.add((long) bench.wipe());
    }

    /** What no frame showed: the layers that are not described, what follows them, the limit. */
    private static void addUnused(List<Long> answers, CaptureBench bench) {
        bench.drop(0);
        int frame = Checks.addFrame(bench, 0, Integer.MAX_VALUE, new int[40]);
        for (int layer = 1; layer < 4; layer++) {
            bench.root(0, layer);
            addEntries(answers, bench, frame);
        }
        for (int layer = 0; layer < 4; layer++) {
            bench.root(0, layer);
            Checks.describe(bench, layer, "a8>a");
            addEntries(answers, bench, frame);
        }
        Checks.describe(bench, 3, "#*(a1)");
        add(answers, () -> bench.decode(frame));
    }

    private static void dueLikeTwin(String what, Supplier<CaptureBench> made,
            Consumer<CaptureBench> refused) {
        CaptureBench bench = made.get();
        refused.accept(bench);
        List<Long> answers = answersOf(bench);
        List<Long> want = answersOf(made.get());
        Checks.due("the number of answers behind " + what, answers.size(), want.size());
        for (int k = 0; k < want.size(); k++) {
            Checks.due("answer " + k + " behind " + what, answers.get(k), want.get(k));
        }
    }

    private static void dueRefused(String what, Class<? extends RuntimeException> thrown,
            Consumer<CaptureBench> call) {
        dueLikeTwin(what, RefusedCallsTest::busyBench,
                bench -> Checks.dueThrow(what, thrown, () -> call.accept(bench)));
    }

    private static void dueRefusedWhenFull(String what, Class<? extends RuntimeException> thrown,
            Consumer<CaptureBench> call) {
        dueLikeTwin(what, RefusedCallsTest::fullBench,
                bench -> Checks.dueThrow(what, thrown, () -> call.accept(bench)));
    }

    private static void wrongNumbersChangeNothing() {
        Checks.sentence("a call that throws, or answers a place of a text that is none, changes "
                + "nothing.");
        dueRefused("write(0, 1)", ARGUMENT, b -> b.write(0, 1));
        dueRefused("write(9, 1)", ARGUMENT, b -> b.write(9, 1));
        dueRefused("layer(-1)", ARGUMENT, b -> b.layer(-1));
        dueRefused("layer(4)", ARGUMENT, b -> b.layer(4));
        dueRefused("root(-1, 2)", ARGUMENT, b -> b.root(-1, 2));
        dueRefused("root(2, 2)", ARGUMENT, b -> b.root(2, 2));
        dueRefused("root(0, -2)", ARGUMENT, b -> b.root(0, -2));
        dueRefused("root(1, 4)", ARGUMENT, b -> b.root(1, 4));
        dueRefused("follow(-1, 1, 2)", ARGUMENT, b -> b.follow(-1, 1, 2));
        dueRefused("follow(4, 1, 2)", ARGUMENT, b -> b.follow(4, 1, 2));
        dueRefused("follow(0, -1, 1)", ARGUMENT, b -> b.follow(0, -1, 1));
        dueRefused("follow(0, 1, -2)", ARGUMENT, b -> b.follow(0, 1, -2));
        dueRefused("follow(0, 1, 4)", ARGUMENT, b -> b.follow(0, 1, 4));
        dueRefused("frame(-1, 0)", ARGUMENT, b -> b.frame(-1, 0));
        dueRefused("frame(2, 0)", ARGUMENT, b -> b.frame(2, 0));
        dueRefused("frame(0, -1)", ARGUMENT, b -> b.frame(0, -1));
        dueRefused("limit(0)", ARGUMENT, b -> b.limit(0));
        dueRefused("limit(65)", ARGUMENT, b -> b.limit(65));
        dueRefused("entry(0, 0, 5)", ARGUMENT, b -> b.entry(0, 0, 5));
        dueRefused("filter(-1)", ARGUMENT, b -> b.filter(-1));
        dueRefused("filter(4)", ARGUMENT, b -> b.filter(4));
        dueRefused("next(4, 0)", ARGUMENT, b -> b.next(4, 0));
        dueRefused("next(0, -1)", ARGUMENT, b -> b.next(0, -1));
        dueRefused("total(4, 0, 0, 0)", ARGUMENT, b -> b.total(4, 0, 0, 0));
        dueRefused("total(0, 4, 0, 0)", ARGUMENT, b -> b.total(0, 4, 0, 0));
        dueRefused("total(0, 0, 9, 0)", ARGUMENT, b -> b.total(0, 0, 9, 0));
        dueRefused("total(0, 0, 0, 4)", ARGUMENT, b -> b.total(0, 0, 0, 4));
        dueRefused("talks(4, 0, 0, 0)", ARGUMENT, b -> b.talks(4, 0, 0, 0));
        dueRefused("talks(0, 8, 0, 0)", ARGUMENT, b -> b.talks(0, 8, 0, 0));
        dueRefused("talks(0, 0, -1, 0)", ARGUMENT, b -> b.talks(0, 0, -1, 0));
        dueRefused("talks(0, 0, 0, 8)", ARGUMENT, b -> b.talks(0, 0, 0, 8));
        dueRefused("talk(0, 6)", ARGUMENT, b -> b.talk(0, 6));
        dueRefused("stream(0, 4, 0)", ARGUMENT, b -> b.stream(0, 4, 0));
        dueRefused("stream(0, 0, 8)", ARGUMENT, b -> b.stream(0, 0, 8));
    }

    private static void whatIsNotThereChangesNothing() {
        Checks.sentence("a call that throws, or answers a place of a text that is none, changes "
                + "nothing.");
        dueRefused("drop(-1)", BOUNDS, b -> b.drop(-1));
        dueRefused("drop(3)", BOUNDS, b -> b.drop(3));
        dueRefused("decode(3)", BOUNDS, b -> b.decode(3));
        dueRefused("entry(3, 0, 0)", BOUNDS, b -> b.entry(3, 0, 0));
        dueRefused("entry(0, 9, 0)", BOUNDS, b -> b.entry(0, 9, 0));
        dueRefused("value(3, 0)", BOUNDS, b -> b.value(3, 0));
        dueRefused("value(0, 9)", BOUNDS, b -> b.value(0, 9));
        dueRefused("next(1, 0)", ELEMENT, b -> b.next(1, 0));
        dueRefused("total(1, 0, 0, 0)", ELEMENT, b -> b.total(1, 0, 0, 0));
        dueRefused("talk(1, 0)", BOUNDS, b -> b.talk(1, 0));
        dueRefused("stream(1, 0, 0)", BOUNDS, b -> b.stream(1, 0, 0));
        dueRefused("stream(-1, 0, 0)", BOUNDS, b -> b.stream(-1, 0, 0));
    }

    private static void fullStatesChangeNothing() {
        Checks.sentence("a call that throws, or answers a place of a text that is none, changes "
                + "nothing.");
        dueRefusedWhenFull("follow(0, 8, 1)", STATE, b -> b.follow(0, 8, 1));
        dueRefusedWhenFull("follow(0, 0, 4)", ARGUMENT, b -> b.follow(0, 0, 4));
        dueRefusedWhenFull("frame(0, 0)", STATE, b -> b.frame(0, 0));
        dueRefusedWhenFull("frame(1, 99)", STATE, b -> b.frame(1, 99));
        dueRefusedWhenFull("drop(12)", BOUNDS, b -> b.drop(12));
        dueRefusedWhenFull("talk(12, 0)", BOUNDS, b -> b.talk(12, 0));
        dueLikeTwin("frame(0, 0) of no byte", () -> busyBench(""),
                b -> Checks.dueIllegalState("frame(0, 0)", () -> b.frame(0, 0)));
        dueLikeTwin("frame(0, 0) of 41 bytes", () -> busyBench("x".repeat(41)),
                b -> Checks.dueIllegalState("frame(0, 0)", () -> b.frame(0, 0)));
        dueLikeTwin("write(8, 0) to 73 bytes", () -> busyBench("x".repeat(73)),
                b -> Checks.due("write(8, 0)", b.write(8, 0), Checks.NONE));
    }

    private static void placesOfLayersChangeNothing() {
        Checks.sentence("a call that throws, or answers a place of a text that is none, changes "
                + "nothing.");
        String[] texts = {"", "c4d4)", "a16<b8>", "#*(h8$h)>a", "c8?c=0(d8", "a1b1c1d1e1f1g1h1>i"};
        int[] places = {0, 4, 7, 9, 9, 17};
        for (int k = 0; k < texts.length; k++) {
            int place = places[k];
            for (int n = 0; n < 4; n++) {
                int layer = n;
                dueLikeTwin("layer(" + layer + ") of " + texts[k], textBench(texts[k]),
                        b -> Checks.due("layer(" + layer + ")", b.layer(layer), place));
            }
        }
    }

    private static void placesOfFiltersChangeNothing() {
        Checks.sentence("a call that throws, or answers a place of a text that is none, changes "
                + "nothing.");
        String[] texts = {"", "0a=2|", "!0a)", "(0a=2", "1c&0a=1,2,3,4,5", "!0a&4a"};
        int[] places = {0, 5, 3, 5, 13, 4};
        for (int k = 0; k < texts.length; k++) {
            int place = places[k];
            for (int n = 0; n < 4; n++) {
                int filter = n;
                dueLikeTwin("filter(" + filter + ") of " + texts[k], textBench(texts[k]),
                        b -> Checks.due("filter(" + filter + ")", b.filter(filter), place));
            }
        }
    }

    private static Supplier<CaptureBench> textBench(String draft) {
        return () -> busyBench(draft);
    }
}
