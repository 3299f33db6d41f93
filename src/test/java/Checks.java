/** What the tests share: saying what is due, counting what is not, and filling the draft. */
final class Checks {
    static final int NONE = CaptureBench.NONE;

    private static int done = 0;
    private static int wrong = 0;
    private static String sentence = "";

    private Checks() {
    }

    /** The sentence of the document that the checks from here on are for. */
    static void sentence(String quoted) {
        sentence = "'" + quoted + "': ";
    }

    static void due(String what, long got, long want) {
        done++;
        if (got != want) {
            tellWrong(what + " answered " + got + ", due is " + want);
        }
    }

    private static void tellWrong(String what) {
        wrong++;
        System.out.println(sentence + what);
    }

    /** The very class is asked for, so that no exception of the Java machine's own passes. */
    static void dueThrow(String what, Class<? extends RuntimeException> want, Runnable call) {
        done++;
        String got = "nothing";
        try {
            call.run();
        } catch (RuntimeException e) {
            if (e.getClass() == want) {
                return;
            }
            got = e.toString();
        }
        tellWrong(what + " threw " + got + ", due is " + want.getName());
    }

    static void dueIllegalArgument(String what, Runnable call) {
        dueThrow(what, IllegalArgumentException.class, call);
    }

    static void dueIllegalState(String what, Runnable call) {
        dueThrow(what, IllegalStateException.class, call);
    }

    static void dueOutOfBounds(String what, Runnable call) {
        dueThrow(what, IndexOutOfBoundsException.class, call);
    }

    static void dueNoSuchElement(String what, Runnable call) {
        dueThrow(what, java.util.NoSuchElementException.class, call);
    }

    /** Puts bytes behind the draft, eight a call. */
    static void write(CaptureBench bench, int... bytes) {
        for (int from = 0; from < bytes.length; from += 8) {
            int n = Math.min(8, bytes.length - from);
            long packed = 0;
            for (int k = n - 1; k >= 0; k--) {
                packed = packed << 8 | bytes[from + k];
            }
            due("write of " + n + " bytes succeeds", bench.write(n, packed) == NONE ? 1 : 0, 0);
        }
    }

    static void write(CaptureBench bench, String text) {
        write(bench, text.chars().toArray());
    }

    /** Describes a layer by a text that must be one. */
    static void describe(CaptureBench bench, int layer, String text) {
        bench.wipe();
        write(bench, text);
        due("layer(" + layer + ") of " + text, bench.layer(layer), NONE);
    }

    static void makeFilter(CaptureBench bench, int filter, String text) {
        bench.wipe();
        write(bench, text);
        due("filter(" + filter + ") of " + text, bench.filter(filter), NONE);
    }

    /** What layer() answers to a text; only a layer text empties the draft. */
    static void dueLayerPlace(String text, int want) {
        CaptureBench bench = new CaptureBench();
        write(bench, text);
        due("layer(0) of '" + text + "'", bench.layer(0), want);
        due("draft behind '" + text + "'", bench.wipe(), want == NONE ? 0 : text.length());
    }

    /** What filter() answers to a text; only a filter text empties the draft. */
    static void dueFilterPlace(String text, int want) {
        CaptureBench bench = new CaptureBench();
        write(bench, text);
        due("filter(0) of '" + text + "'", bench.filter(0), want);
        due("draft behind '" + text + "'", bench.wipe(), want == NONE ? 0 : text.length());
    }

    static int addFrame(CaptureBench bench, int link, int time, int... bytes) {
        bench.wipe();
        write(bench, bytes);
        return bench.frame(link, time);
    }

    /** A bench whose link 0 is decoded by layer 0. */
    static CaptureBench benchWith(String layerText) {
        CaptureBench bench = new CaptureBench();
        describe(bench, 0, layerText);
        bench.root(0, 0);
        return bench;
    }

    /** The same with a frame on link 0. */
    static CaptureBench decoded(String layerText, int... bytes) {
        CaptureBench bench = benchWith(layerText);
        addFrame(bench, 0, 0, bytes);
        return bench;
    }

    /** An entry's layer, name, first bit, bits and mark, and its value. */
    static void dueEntry(CaptureBench bench, int frame, int k, int[] facts, long value) {
        for (int what = 0; what < facts.length; what++) {
            due("entry(" + frame + ", " + k + ", " + what + ")", bench.entry(frame, k, what),
                    facts[what]);
        }
        due("value(" + frame + ", " + k + ")", bench.value(frame, k), value);
    }

    /** All entries of frame 0, each with its layer, name, first bit, bits, mark and value. */
    static void dueEntries(CaptureBench bench, long[]... want) {
        dueEntriesOf(bench, 0, want);
    }

    static void dueEntriesOf(CaptureBench bench, int frame, long[]... want) {
        due("decode(" + frame + ")", bench.decode(frame), want.length);
        int shown = Math.min(want.length, bench.decode(frame));
        for (int k = 0; k < shown; k++) {
            for (int what = 0; what < 5; what++) {
                due("entry(" + frame + ", " + k + ", " + what + ")",
                        bench.entry(frame, k, what), want[k][what]);
            }
            due("value(" + frame + ", " + k + ")", bench.value(frame, k), want[k][5]);
        }
        dueOutOfBounds("the entry behind the last",
                () -> bench.entry(frame, want.length, 0));
    }

    static long[] row(int layer, int name, int firstBit, int bits, int mark, long value) {
        return new long[] {layer, name, firstBit, bits, mark, value};
    }

    static int[] facts(int layer, int name, int firstBit, int bits, int mark) {
        return new int[] {layer, name, firstBit, bits, mark};
    }

    static void end() {
        System.out.println(done + " checks, " + wrong + " wrong");
        if (wrong != 0 || done == 0) {
            System.exit(1);
        }
    }
}
