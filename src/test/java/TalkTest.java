/** Promises 16 to 19: talks, talk, stream, streamed. */
public final class TalkTest {
    public static void main(String[] args) {
        talksAreBuilt();
        waysAreTold();
        framesWithoutBothValues();
        firstValuesAndLayers();
        twelveTalks();
        talksEnd();
        talksStay();
        wrongTalks();
        streamJoins();
        streamTakesNoFramesOfOlderTalks();
        streamKeepsWhatIsThere();
        streamCountsModuloTheWidth();
        streamTakesFirstBlocks();
        streamTakesUnalignedBlocks();
        streamEndsAt64();
        streamedStays();
        wrongStreams();
        Checks.end();
    }

    private static void dueTalk(CaptureBench bench, int k, long... want) {
        for (int what = 0; what < want.length; what++) {
            Checks.due("talk(" + k + ", " + what + ")", bench.talk(k, what), want[what]);
        }
    }

    private static void dueStreamed(CaptureBench bench, int from, int... bytes) {
        for (int k = 0; k < bytes.length; k++) {
            Checks.due("streamed(" + (from + k) + ")", bench.streamed(from + k), bytes[k]);
        }
    }

    private static void talksAreBuilt() {
        CaptureBench bench = Checks.benchWith("a8b8$*");
        Checks.due("talks of no frames", bench.talks(0, 0, 0, 1), 0);
        Checks.addFrame(bench, 0, 0, 2, 1, 0);
        Checks.addFrame(bench, 0, 1, 1, 2);
        Checks.addFrame(bench, 0, 2, 2, 1, 0, 0, 0);
        Checks.addFrame(bench, 0, 3, 3, 1, 0);
        Checks.addFrame(bench, 0, 4, 1, 2, 0, 0);
        Checks.addFrame(bench, 0, 5, 1, 2, 0);
        Checks.due("talks", bench.talks(0, 0, 0, 1), 2);
        dueTalk(bench, 0, 2, 1, 2, 3, 8, 9);
        dueTalk(bench, 1, 3, 1, 1, 0, 3, 0);
        Checks.due("talks with A and B exchanged", bench.talks(0, 1, 0, 0), 2);
        dueTalk(bench, 0, 1, 2, 2, 3, 8, 9);
        Checks.due("talks of no such field", bench.talks(0, 0, 0, 7), 0);
        Checks.dueOutOfBounds("talk(0, 0) then", () -> bench.talk(0, 0));
    }

    private static void waysAreTold() {
        CaptureBench bench = Checks.benchWith("a32b8");
        Checks.addFrame(bench, 0, 0, 0xFF, 0xFF, 0xFF, 0xFF, 9);
        Checks.addFrame(bench, 0, 1, 0, 0, 0, 5, 5);
        Checks.addFrame(bench, 0, 2, 0, 0, 0, 5, 5);
        Checks.addFrame(bench, 0, 3, 0, 0, 0, 9, 9);
        Checks.due("talks", bench.talks(0, 0, 0, 1), 3);
        dueTalk(bench, 0, 0xFFFFFFFFL, 9, 1, 0, 5, 0);
        // When x is y, both orders are the same one.
        dueTalk(bench, 1, 5, 5, 2, 0, 10, 0);
        dueTalk(bench, 2, 9, 9, 1, 0, 5, 0);
        Checks.due("talks of one field", bench.talks(0, 1, 0, 1), 2);
        dueTalk(bench, 0, 9, 9, 2, 0, 10, 0);
    }

    private static void framesWithoutBothValues() {
        CaptureBench bench = Checks.benchWith("a8=1b8");
        Checks.addFrame(bench, 0, 0, 1);
        Checks.addFrame(bench, 0, 1, 2, 2);
        Checks.addFrame(bench, 1, 2, 1, 2);
        Checks.addFrame(bench, 0, 3, 1, 3);
        Checks.due("talks", bench.talks(0, 0, 0, 1), 1);
        dueTalk(bench, 0, 1, 3, 1, 0, 2, 0);
        Checks.due("a fixed field that is another one has its value", bench.talks(0, 0, 0, 0), 2);
        dueTalk(bench, 1, 2, 2, 1, 0, 2, 0);
        bench.limit(2);
        Checks.due("a field that the limit ended has none", bench.talks(0, 0, 0, 1), 0);
    }

    private static void firstValuesAndLayers() {
        CaptureBench bench = Checks.benchWith("#*(a4b4)");
        Checks.addFrame(bench, 0, 0, 0x12, 0x34);
        Checks.addFrame(bench, 0, 1, 0x21, 0x56, 0x78);
        Checks.due("talks by first values", bench.talks(0, 0, 0, 1), 1);
        dueTalk(bench, 0, 1, 2, 1, 1, 2, 3);
        Checks.describe(bench, 0, "a4b4>b");
        Checks.describe(bench, 2, "a8");
        bench.follow(0, 2, 2);
        Checks.due("talks by two layers", bench.talks(0, 0, 2, 0), 1);
        dueTalk(bench, 0, 1, 0x34, 1, 0, 2, 0);
        Checks.due("talks by two layers, exchanged", bench.talks(2, 0, 0, 0), 1);
        dueTalk(bench, 0, 0x34, 1, 1, 0, 2, 0);
    }

    private static void twelveTalks() {
        CaptureBench bench = Checks.benchWith("a8b8");
        for (int k = 0; k < 12; k++) {
            Checks.addFrame(bench, 0, k, k, 99);
        }
        Checks.due("twelve talks", bench.talks(0, 0, 0, 1), 12);
        dueTalk(bench, 11, 11, 99, 1, 0, 2, 0);
        Checks.due("stream(11, 0, 0)", bench.stream(11, 0, 0), 0);
        Checks.dueOutOfBounds("talk(12, 0)", () -> bench.talk(12, 0));
    }

    private static CaptureBench talking() {
        CaptureBench bench = Checks.benchWith("a8$*");
        Checks.addFrame(bench, 0, 4, 1, 2);
        bench.talks(0, 0, 0, 0);
        dueTalk(bench, 0, 1, 1, 1, 0, 2, 0);
        return bench;
    }

    private static void dueNoTalks(String what, CaptureBench bench) {
        Checks.dueOutOfBounds("talk(0, 0) behind " + what, () -> bench.talk(0, 0));
        Checks.dueOutOfBounds("stream(0, 0, 0) behind " + what, () -> bench.stream(0, 0, 0));
        Checks.due("talks behind " + what, bench.talks(0, 0, 0, 0) >= 0 ? 1 : 0, 1);
    }

    private static void talksEnd() {
        CaptureBench bench = talking();
        Checks.describe(bench, 3, "a8");
        dueNoTalks("layer()", bench);
        bench = talking();
        bench.root(0, 0);
        dueNoTalks("root() that changes nothing", bench);
        bench = talking();
        bench.follow(2, 1, -1);
        dueNoTalks("follow() that changes nothing", bench);
        bench = talking();
        bench.follow(2, 1, 1);
        dueNoTalks("follow()", bench);
        bench = talking();
        Checks.addFrame(bench, 1, 9, 1);
        dueNoTalks("frame()", bench);
        bench = talking();
        bench.drop(0);
        dueNoTalks("drop()", bench);
        bench = talking();
        bench.limit(64);
        dueNoTalks("limit() that changes nothing", bench);
    }

    private static void talksStay() {
        CaptureBench bench = talking();
        Checks.write(bench, "0a");
        bench.layer(0);
        bench.filter(0);
        bench.wipe();
        bench.next(0, 0);
        bench.total(0, 0, 0, 0);
        bench.decode(0);
        bench.stream(0, 0, 0);
        dueTalk(bench, 0, 1, 1, 1, 0, 2, 0);
        Checks.dueIllegalArgument("layer(4)", () -> bench.layer(4));
        Checks.dueIllegalArgument("root(0, 4)", () -> bench.root(0, 4));
        Checks.dueIllegalArgument("follow(0, 0, 4)", () -> bench.follow(0, 0, 4));
        Checks.dueIllegalState("frame(0, 0)", () -> bench.frame(0, 0));
        Checks.dueOutOfBounds("drop(1)", () -> bench.drop(1));
        Checks.dueIllegalArgument("limit(0)", () -> bench.limit(0));
        Checks.dueIllegalArgument("talks(0, 8, 0, 0)", () -> bench.talks(0, 8, 0, 0));
        dueTalk(bench, 0, 1, 1, 1, 0, 2, 0);
    }

    private static void wrongTalks() {
        CaptureBench bench = talking();
        Checks.dueIllegalArgument("talks(-1, 0, 0, 0)", () -> bench.talks(-1, 0, 0, 0));
        Checks.dueIllegalArgument("talks(4, 0, 0, 0)", () -> bench.talks(4, 0, 0, 0));
        Checks.dueIllegalArgument("talks(0, -1, 0, 0)", () -> bench.talks(0, -1, 0, 0));
        Checks.dueIllegalArgument("talks(0, 8, 0, 0)", () -> bench.talks(0, 8, 0, 0));
        Checks.dueIllegalArgument("talks(0, 0, -1, 0)", () -> bench.talks(0, 0, -1, 0));
        Checks.dueIllegalArgument("talks(0, 0, 4, 0)", () -> bench.talks(0, 0, 4, 0));
        Checks.dueIllegalArgument("talks(0, 0, 0, -1)", () -> bench.talks(0, 0, 0, -1));
        Checks.dueIllegalArgument("talks(0, 0, 0, 8)", () -> bench.talks(0, 0, 0, 8));
        Checks.dueOutOfBounds("talk(-1, 0)", () -> bench.talk(-1, 0));
        Checks.dueOutOfBounds("talk(1, 0)", () -> bench.talk(1, 0));
        Checks.dueOutOfBounds("talk(1, 6)", () -> bench.talk(1, 6));
        Checks.dueIllegalArgument("talk(0, 6)", () -> bench.talk(0, 6));
        Checks.dueIllegalArgument("talk(0, -1)", () -> bench.talk(0, -1));
    }

    private static void streamJoins() {
        CaptureBench bench = Checks.benchWith("a4b4c8$*");
        Checks.addFrame(bench, 0, 0, 0x12, 10, 'A', 'B');
        Checks.addFrame(bench, 0, 1, 0x21, 10, 'x', 'y', 'z');
        Checks.addFrame(bench, 0, 2, 0x12, 15, 'F');
        Checks.addFrame(bench, 0, 3, 0x13, 12, 'q');
        Checks.addFrame(bench, 0, 4, 0x12, 12, 'C', 'D');
        Checks.due("talks", bench.talks(0, 0, 0, 1), 2);
        Checks.due("stream(0, 0, 2)", bench.stream(0, 0, 2), 5);
        dueStreamed(bench, -2, -1, -1, 'A', 'B', 'C', 'D', -1, 'F', -1, -1);
        Checks.due("stream(1, 0, 2)", bench.stream(1, 0, 2), 1);
        dueStreamed(bench, -1, -1, 'q', -1, -1);
        Checks.due("stream by a field that all have alike", bench.stream(0, 0, 0), 2);
        dueStreamed(bench, 0, 'A', 'B', -1);
        Checks.due("stream by no such field", bench.stream(0, 0, 7), 0);
        dueStreamed(bench, 0, -1, -1);
        Checks.due("stream by another layer", bench.stream(0, 1, 2), 0);
    }

    private static void streamTakesNoFramesOfOlderTalks() {
        CaptureBench bench = Checks.benchWith("a8b8?a=2(c8)$*");
        Checks.addFrame(bench, 0, 0, 1, 0, 'x');
        Checks.addFrame(bench, 0, 1, 2, 0, 5, 'y', 'z');
        Checks.due("talks that both have", bench.talks(0, 1, 0, 1), 1);
        Checks.due("stream of both", bench.stream(0, 0, 1), 2);
        Checks.due("talks that the second alone has", bench.talks(0, 2, 0, 2), 1);
        Checks.due("stream of the second", bench.stream(0, 0, 1), 2);
        dueStreamed(bench, 0, 'y', 'z', -1);
    }

    private static void streamKeepsWhatIsThere() {
        CaptureBench bench = Checks.benchWith("a8c8$*");
        Checks.addFrame(bench, 0, 0, 1, 0, 'a');
        Checks.addFrame(bench, 0, 1, 1, 2, 'c', 0, 'e');
        Checks.addFrame(bench, 0, 2, 1, 0, 'A', 'B', 'C', 'D', 'E', 'F');
        bench.talks(0, 0, 0, 0);
        Checks.due("stream", bench.stream(0, 0, 2), 6);
        dueStreamed(bench, 0, 'a', 'B', 'c', 0, 'e', 'F', -1);
        Checks.due("stream again", bench.stream(0, 0, 2), 6);
    }

    private static void streamCountsModuloTheWidth() {
        CaptureBench bench = Checks.benchWith("a8b4c4$*");
        Checks.addFrame(bench, 0, 0, 1, 0xE0, 1, 2, 3, 4);
        Checks.addFrame(bench, 0, 1, 1, 0x20, 5, 6);
        // The distance is 15, the most, but what comes behind it does not wrap.
        Checks.addFrame(bench, 0, 2, 1, 0xD0, 7, 8, 9);
        bench.talks(0, 0, 0, 0);
        Checks.due("stream", bench.stream(0, 0, 1), 9);
        dueStreamed(bench, 0, 1, 2, 3, 4, 5, 6, -1);
        dueStreamed(bench, 14, -1, 7, 8, 9, -1);
        bench = Checks.benchWith("b32c8$*");
        Checks.addFrame(bench, 0, 0, 0xFF, 0xFF, 0xFF, 0xFE, 7, 1, 2);
        Checks.addFrame(bench, 0, 1, 0, 0, 0, 0, 7, 3);
        Checks.addFrame(bench, 0, 2, 0x7F, 0xFF, 0xFF, 0xFE, 7, 4);
        bench.talks(0, 2, 0, 2);
        Checks.due("stream by 32 bits", bench.stream(0, 0, 1), 3);
        dueStreamed(bench, 0, 1, 2, 3, -1);
    }

    private static void streamTakesFirstBlocks() {
        CaptureBench bench = Checks.benchWith("a8#*(b8$b)");
        Checks.addFrame(bench, 0, 0, 7, 9, 1);
        Checks.addFrame(bench, 0, 1, 7, 2, 'x', 'y', 1, 'z');
        Checks.addFrame(bench, 0, 2, 7, 3, 'u', 'v', 'w', 9);
        bench.talks(0, 0, 0, 0);
        // The first frame has no block with mark 0, so that the second one tells where to begin.
        Checks.due("stream", bench.stream(0, 0, 1), 4);
        dueStreamed(bench, 0, 'x', 'y', 'v', 'w', -1);
        bench = Checks.benchWith("a8b8$*");
        Checks.addFrame(bench, 0, 0, 7, 5);
        Checks.addFrame(bench, 0, 1, 7, 6, 'p');
        bench.talks(0, 0, 0, 0);
        Checks.due("an empty block is one", bench.stream(0, 0, 1), 1);
        dueStreamed(bench, 0, -1, 'p', -1);
        bench = Checks.benchWith("a8$a>a");
        Checks.describe(bench, 1, "a8$*");
        bench.follow(0, 1, 1);
        Checks.addFrame(bench, 0, 0, 1, 'm', 9, 'n', 'o');
        bench.talks(0, 0, 0, 0);
        Checks.due("the block of layer 0", bench.stream(0, 0, 0), 1);
        dueStreamed(bench, 0, 'm', -1);
        Checks.due("the block of layer 1", bench.stream(0, 1, 0), 2);
        dueStreamed(bench, 0, 'n', 'o', -1);
        // A wrong sum leaves a first value, and the limit ends a block.
        bench = Checks.benchWith("a8b8!$*");
        Checks.addFrame(bench, 0, 0, 1, 5, 'r');
        bench.talks(0, 0, 0, 0);
        Checks.due("by a wrong sum", bench.stream(0, 0, 1), 1);
        bench.limit(3);
        bench.talks(0, 0, 0, 0);
        Checks.due("no block within the limit", bench.stream(0, 0, 1), 0);
    }

    private static void streamTakesUnalignedBlocks() {
        CaptureBench bench = Checks.benchWith("a4$*");
        Checks.addFrame(bench, 0, 0, 0x12, 0x34, 0xF6);
        bench.talks(0, 0, 0, 0);
        Checks.due("stream", bench.stream(0, 0, 0), 2);
        dueStreamed(bench, 0, 0x23, 0x4F, -1);
    }

    private static void streamEndsAt64() {
        CaptureBench bench = Checks.benchWith("a8c8$*");
        int[] bytes = new int[40];
        for (int k = 0; k < 40; k++) {
            bytes[k] = k + 1;
        }
        bytes[0] = 1;
        bytes[1] = 0;
        Checks.addFrame(bench, 0, 0, bytes);
        bytes[1] = 30;
        Checks.addFrame(bench, 0, 1, bytes);
        Checks.addFrame(bench, 0, 2, 1, 64, 9);
        Checks.addFrame(bench, 0, 3, 1, 255, 9, 9);
        bench.talks(0, 0, 0, 0);
        Checks.due("stream", bench.stream(0, 0, 2), 64);
        dueStreamed(bench, 37, 40, 11, 12);
        dueStreamed(bench, 62, 35, 36, -1);
        Checks.due("streamed(-1)", bench.streamed(-1), -1);
        Checks.due("streamed(least)", bench.streamed(Integer.MIN_VALUE), -1);
        Checks.due("streamed(most)", bench.streamed(Integer.MAX_VALUE), -1);
    }

    private static void streamedStays() {
        CaptureBench bench = Checks.benchWith("a8$*");
        Checks.due("nothing was joined yet", bench.streamed(0), -1);
        Checks.addFrame(bench, 0, 0, 1, 'k', 255);
        bench.talks(0, 0, 0, 0);
        Checks.due("stream", bench.stream(0, 0, 0), 2);
        bench.drop(0);
        Checks.describe(bench, 0, "a1");
        bench.limit(1);
        bench.talks(0, 0, 0, 0);
        dueStreamed(bench, 0, 'k', 255, -1);
        Checks.dueOutOfBounds("stream of no talk", () -> bench.stream(0, 0, 0));
        dueStreamed(bench, 0, 'k', 255, -1);
    }

    private static void wrongStreams() {
        CaptureBench bench = talking();
        bench.stream(0, 0, 0);
        Checks.dueOutOfBounds("stream(1, 0, 0)", () -> bench.stream(1, 0, 0));
        Checks.dueOutOfBounds("stream(-1, 0, 0)", () -> bench.stream(-1, 0, 0));
        Checks.dueOutOfBounds("stream(1, 4, 8)", () -> bench.stream(1, 4, 8));
        Checks.dueIllegalArgument("stream(0, -1, 0)", () -> bench.stream(0, -1, 0));
        Checks.dueIllegalArgument("stream(0, 4, 0)", () -> bench.stream(0, 4, 0));
        Checks.dueIllegalArgument("stream(0, 0, -1)", () -> bench.stream(0, 0, -1));
        Checks.dueIllegalArgument("stream(0, 0, 8)", () -> bench.stream(0, 0, 8));
        dueStreamed(bench, 0, 2, -1);
    }
}
