/** What the tests share: saying what is due, counting what is not, and filling the draft. */
final class Checks {
    static final int NONE = CaptureBench.NONE;

    private static int done = 0;
    private static int wrong = 0;

    private Checks() {
    }

    static void due(String what, long got, long want) {
        done++;
        if (got != want) {
            wrong++;
            System.out.println(what + " answered " + got + ", due is " + want);
        }
    }

    /** The very class is asked for, so that no exception of the Java machine's own passes. */
    static void dueThrow(String what, Class<? extends RuntimeException> want, Runnable call) {
        done++;
        String got = "nothing";
        try {
            call.run();
        } catch (RuntimeException e) {
            if (e.getClass() == want) {
                return;
            }
            got = e.toString();
        }
        wrong++;
        System.out.println(what + " threw " + got + ", due is " + want.getName());
    }

    static void dueIllegalArgument(String what, Runnable call) {
        dueThrow(what, IllegalArgumentException.class, call);
    }

    static void dueIllegalState(String what, Runnable call) {
        dueThrow(what, IllegalStateException.class, call);
    }

    static void dueOutOfBounds(String what, Runnable call) {
        dueThrow(what, IndexOutOfBoundsException.class, call);
    }

    static void dueNoSuchElement(String what, Runnable call) {
        dueThrow(what, java.util.NoSuchElementException.class, call);
    }

    /** Puts bytes behind the draft, eight a call. */
    static void write(CaptureBench bench, int... bytes) {
        for (int from = 0; from < bytes.length; from += 8) {
            int n = Math.min(8, bytes.length - from);
            long packed = 0;
            for (int k = n - 1; k >= 0; k--) {
                packed = packed << 8 | bytes[from + k];
            }
            due("write of " + n + " bytes succeeds", bench.write(n, packed) == NONE ? 1 : 0, 0);
        }
    }

    static void write(CaptureBench bench, String text) {
        write(bench, text.chars().toArray());
    }

    /** Describes a layer by a text that must be one. */
    static void describe(CaptureBench bench, int layer, String text) {
        bench.wipe();
        write(bench, text);
        due("layer(" + layer + ") of " + text, bench.layer(layer), NONE);
    }

    static void makeFilter(CaptureBench bench, int filter, String text) {
        bench.wipe();
        write(bench, text);
        due("filter(" + filter + ") of " + text, bench.filter(filter), NONE);
    }

    static int addFrame(CaptureBench bench, int link, int time, int... bytes) {
        bench.wipe();
        write(bench, bytes);
        return bench.frame(link, time);
    }

    /** A bench whose link 0 is decoded by layer 0. */
    static CaptureBench benchWith(String layerText) {
        CaptureBench bench = new CaptureBench();
        describe(bench, 0, layerText);
        bench.root(0, 0);
        return bench;
    }

    /** An entry's layer, name, first bit, bits and mark, and its value. */
    static void dueEntry(CaptureBench bench, int frame, int k, int[] facts, long value) {
        for (int what = 0; what < facts.length; what++) {
            due("entry(" + frame + ", " + k + ", " + what + ")", bench.entry(frame, k, what),
                    facts[what]);
        }
        due("value(" + frame + ", " + k + ")", bench.value(frame, k), value);
    }

    static int[] facts(int layer, int name, int firstBit, int bits, int mark) {
        return new int[] {layer, name, firstBit, bits, mark};
    }

    static void end() {
        System.out.println(done + " checks, " + wrong + " wrong");
        if (wrong != 0 || done == 0) {
            System.exit(1);
        }
    }
}
