/** Promises 1 to 3: a new object, write, wipe. */
public final class DraftTest {
    public static void main(String[] args) {
        newObject();
        writeCountsBytes();
        writeTakesLowestBytesFirst();
        writeRefusesTooMany();
        writeRefusesWrongCounts();
        wipeEmpties();
        objectsAreApart();
        Checks.end();
    }

    private static void newObject() {
        CaptureBench bench = new CaptureBench();
        Checks.due("NONE", CaptureBench.NONE, -1);
        Checks.due("wipe() of a new object", bench.wipe(), 0);
        Checks.due("streamed(0) of a new object", bench.streamed(0), -1);
        Checks.dueOutOfBounds("decode(0) of a new object", () -> bench.decode(0));
        Checks.dueOutOfBounds("drop(0) of a new object", () -> bench.drop(0));
        Checks.dueOutOfBounds("talk(0, 0) of a new object", () -> bench.talk(0, 0));
        for (int k = 0; k < 4; k++) {
            int filter = k;
            Checks.dueNoSuchElement("next of a new object", () -> bench.next(filter, 0));
        }
        Checks.addFrame(bench, 0, 0, 1);
        Checks.addFrame(bench, 1, 1, 1);
        Checks.due("no roots: link 0", bench.decode(0), 0);
        Checks.due("no roots: link 1", bench.decode(1), 0);
        for (int layer = 0; layer < 4; layer++) {
            bench.root(0, layer);
            Checks.due("layers are not described", bench.decode(0), 0);
        }
        noRootsOfDescribedLayers();
        limitIs64();
    }

    private static void noRootsOfDescribedLayers() {
        CaptureBench bench = new CaptureBench();
        for (int layer = 0; layer < 4; layer++) {
            Checks.describe(bench, layer, "a8");
        }
        Checks.addFrame(bench, 0, 0, 1);
        Checks.addFrame(bench, 1, 1, 1);
        Checks.due("no root: link 0", bench.decode(0), 0);
        Checks.due("no root: link 1", bench.decode(1), 0);
    }

    private static void limitIs64() {
        CaptureBench bench = Checks.benchWith("#*(a1)");
        Checks.addFrame(bench, 0, 0, 0, 0, 0, 0, 0);
        // A layer, and for each bit a repetition and a field: the 64th step is a repetition.
        Checks.due("entries within 64 steps", bench.decode(0), 32);
        Checks.dueEntry(bench, 0, 30, Checks.facts(0, 0, 30, 1, 0), 0);
        Checks.dueEntry(bench, 0, 31, Checks.facts(0, 0, 31, 0, 4), 0);
    }

    private static void writeCountsBytes() {
        CaptureBench bench = new CaptureBench();
        int size = 0;
        for (int n = 1; n <= 8; n++) {
            size += n;
            Checks.due("write(" + n + ", 0)", bench.write(n, 0), size);
        }
    }

    private static void writeTakesLowestBytesFirst() {
        CaptureBench bench = Checks.benchWith("#*(a8)");
        bench.write(3, 0x44FF2201L);
        bench.write(8, 0xF8F7F6F5F4F3F2F1L);
        bench.write(1, -1L);
        bench.frame(0, 0);
        int[] bytes = {0x01, 0x22, 0xFF, 0xF1, 0xF2, 0xF3, 0xF4, 0xF5, 0xF6, 0xF7, 0xF8, 0xFF};
        Checks.due("bytes of the frame", bench.decode(0), bytes.length);
        for (int k = 0; k < bytes.length; k++) {
            Checks.due("byte " + k, bench.value(0, k), bytes[k]);
        }
    }

    private static void writeRefusesTooMany() {
        CaptureBench bench = new CaptureBench();
        for (int k = 0; k < 9; k++) {
            bench.write(8, 0);
        }
        Checks.due("write to 79", bench.write(7, 0), 79);
        Checks.due("write beyond 80", bench.write(2, 0), -1);
        Checks.due("write of eight beyond 80", bench.write(8, 0), -1);
        Checks.due("write to 80", bench.write(1, 0), 80);
        Checks.due("write when full", bench.write(1, 0), -1);
        Checks.due("a refused write adds none", bench.wipe(), 80);
    }

    private static void writeRefusesWrongCounts() {
        CaptureBench bench = new CaptureBench();
        bench.write(2, 0);
        int[] wrong = {0, 9, -1, 16, Integer.MIN_VALUE, Integer.MAX_VALUE};
        for (int n : wrong) {
            Checks.dueIllegalArgument("write(" + n + ", 0)", () -> bench.write(n, 0));
        }
        Checks.due("a write that throws adds none", bench.wipe(), 2);
        for (int k = 0; k < 10; k++) {
            bench.write(8, 0);
        }
        Checks.dueIllegalArgument("write(9, 0) when full", () -> bench.write(9, 0));
    }

    private static void wipeEmpties() {
        CaptureBench bench = new CaptureBench();
        bench.write(5, 0);
        Checks.due("wipe()", bench.wipe(), 5);
        Checks.due("wipe() again", bench.wipe(), 0);
        Checks.due("write behind a wipe", bench.write(1, 7), 1);
    }

    private static void objectsAreApart() {
        CaptureBench one = Checks.benchWith("a8");
        CaptureBench two = new CaptureBench();
        one.write(3, 0);
        Checks.due("the draft of another object", two.wipe(), 0);
        one.frame(0, 0);
        Checks.dueOutOfBounds("the frame of another object", () -> two.decode(0));
        Checks.addFrame(two, 0, 0, 1);
        Checks.due("the layers of another object", two.decode(0), 0);
    }
}
