/** Promises 7 and 8: frame, drop. */
public final class FrameTest {
    public static void main(String[] args) {
        numbersAreByTime();
        frameEmptiesTheDraft();
        framesHaveOneToFortyBytes();
        twelveFrames();
        wrongFrames();
        dropMovesTheOthers();
        droppedFramesMakeRoom();
        wrongDrops();
        Checks.end();
    }

    private static void dueBytes(CaptureBench bench, int... bytes) {
        for (int k = 0; k < bytes.length; k++) {
            Checks.due("value(" + k + ", 0)", bench.value(k, 0), bytes[k]);
        }
        Checks.dueOutOfBounds("decode behind the last", () -> bench.decode(bytes.length));
    }

    private static void numbersAreByTime() {
        CaptureBench bench = Checks.benchWith("a8");
        bench.root(1, 0);
        Checks.due("the first", Checks.addFrame(bench, 0, 5, 1), 0);
        Checks.due("of one time", Checks.addFrame(bench, 1, 5, 2), 1);
        Checks.due("before", Checks.addFrame(bench, 0, 0, 3), 0);
        Checks.due("of one time again", Checks.addFrame(bench, 0, 5, 4), 3);
        Checks.due("behind", Checks.addFrame(bench, 0, Integer.MAX_VALUE, 5), 4);
        Checks.due("between", Checks.addFrame(bench, 0, 4, 6), 1);
        Checks.due("behind that of its time", Checks.addFrame(bench, 1, 0, 7), 1);
        dueBytes(bench, 3, 7, 6, 1, 2, 4, 5);
    }

    private static void frameEmptiesTheDraft() {
        CaptureBench bench = new CaptureBench();
        Checks.addFrame(bench, 0, 0, 1, 2, 3);
        Checks.due("wipe()", bench.wipe(), 0);
    }

    private static void framesHaveOneToFortyBytes() {
        CaptureBench bench = Checks.benchWith("$*");
        Checks.dueIllegalState("no byte", () -> bench.frame(0, 0));
        Checks.addFrame(bench, 0, 0, new int[40]);
        Checks.addFrame(bench, 0, 0, 1);
        Checks.due("forty bytes", bench.value(0, 0), 40);
        Checks.due("one byte", bench.value(1, 0), 1);
        Checks.write(bench, new int[41]);
        Checks.dueIllegalState("41 bytes", () -> bench.frame(0, 0));
        Checks.dueIllegalArgument("41 bytes, wrong link", () -> bench.frame(2, 0));
        Checks.due("the draft stays", bench.wipe(), 41);
        Checks.dueOutOfBounds("no frame came", () -> bench.decode(2));
    }

    private static void twelveFrames() {
        CaptureBench bench = Checks.benchWith("a8");
        for (int k = 0; k < 12; k++) {
            Checks.due("frame " + k, Checks.addFrame(bench, 0, 100 - k, k), 0);
        }
        bench.talks(0, 0, 0, 0);
        Checks.write(bench, 1);
        Checks.dueIllegalState("a thirteenth frame", () -> bench.frame(0, 0));
        Checks.dueIllegalArgument("a thirteenth frame, wrong time", () -> bench.frame(0, -1));
        Checks.due("the draft stays", bench.wipe(), 1);
        Checks.due("the talks stay", bench.talk(11, 0), 0);
        dueBytes(bench, 11, 10, 9, 8, 7, 6, 5, 4, 3, 2, 1, 0);
    }

    private static void wrongFrames() {
        CaptureBench bench = new CaptureBench();
        Checks.dueIllegalArgument("no byte, wrong link", () -> bench.frame(-1, 0));
        Checks.write(bench, 1);
        Checks.dueIllegalArgument("link -1", () -> bench.frame(-1, 0));
        Checks.dueIllegalArgument("link 2", () -> bench.frame(2, 0));
        Checks.dueIllegalArgument("time -1", () -> bench.frame(0, -1));
        Checks.dueIllegalArgument("least time", () -> bench.frame(0, Integer.MIN_VALUE));
        Checks.due("the draft stays", bench.wipe(), 1);
        Checks.dueOutOfBounds("no frame came", () -> bench.decode(0));
    }

    private static void dropMovesTheOthers() {
        CaptureBench bench = Checks.benchWith("a8");
        for (int k = 0; k < 5; k++) {
            Checks.addFrame(bench, 0, 10 * k, k);
        }
        Checks.due("value before", bench.value(1, 0), 1);
        Checks.due("drop(1)", bench.drop(1), 10);
        dueBytes(bench, 0, 2, 3, 4);
        Checks.due("drop(3)", bench.drop(3), 40);
        dueBytes(bench, 0, 2, 3);
        Checks.due("drop(0)", bench.drop(0), 0);
        dueBytes(bench, 2, 3);
        Checks.due("between them", Checks.addFrame(bench, 0, 25, 9), 1);
        dueBytes(bench, 2, 9, 3);
    }

    private static void droppedFramesMakeRoom() {
        CaptureBench bench = Checks.benchWith("$*");
        for (int k = 0; k < 12; k++) {
            Checks.addFrame(bench, 0, k, new int[40]);
        }
        bench.drop(4);
        Checks.due("in its place", Checks.addFrame(bench, 0, 4, 1, 2), 4);
        Checks.due("with its own bytes", bench.value(4, 0), 2);
        Checks.due("the one before stays", bench.value(3, 0), 40);
        Checks.due("the one behind stays", bench.value(5, 0), 40);
        Checks.due("the last one stays", bench.value(11, 0), 40);
    }

    private static void wrongDrops() {
        CaptureBench bench = Checks.benchWith("a8");
        Checks.dueOutOfBounds("drop(0) of none", () -> bench.drop(0));
        Checks.addFrame(bench, 0, 3, 1);
        bench.talks(0, 0, 0, 0);
        Checks.dueOutOfBounds("drop(1)", () -> bench.drop(1));
        Checks.dueOutOfBounds("drop(-1)", () -> bench.drop(-1));
        Checks.dueOutOfBounds("drop(12)", () -> bench.drop(12));
        Checks.due("the talks stay", bench.talk(0, 0), 1);
        Checks.due("drop(0)", bench.drop(0), 3);
        Checks.dueOutOfBounds("drop(0) again", () -> bench.drop(0));
    }
}
