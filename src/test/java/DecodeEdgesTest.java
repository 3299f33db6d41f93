/** The edges of frames and decoding: a test for each sentence of the terms that names one. */
public final class DecodeEdgesTest {
    private static final int BLOCK = 8;
    private static final int REPETITION = 9;
    private static final int LAYER_BEGINS = 10;

    public static void main(String[] args) {
        framesAreTwelveAtMost();
        framesOfOneTime();
        bitsFromTheHighestOn();
        decodingBeginsWithTheRoot();
        bitsAreTakenOnce();
        whatIsAStep();
        stepBehindTheLimit();
        noStepBehindTheLimit();
        limitGoesBeforeOtherMarks();
        fieldValues();
        fieldsWithTooFewBits();
        fieldsThatAreAnotherNumber();
        sumsModuloTheWidth();
        sumsOfWholeBytesBetween();
        sumsLetDecodingGoOn();
        blocksOfAllSizes();
        blocksOfUnfilledBytes();
        blocksWithTooFewBytes();
        groupsWithoutRepetitions();
        groupsUntilNoBitIsLeft();
        groupsThatTakeNothing();
        optionsAtTheirNumber();
        valueIsTheLatest();
        valueIsOfThisRun();
        layersThatFollow();
        layersThatDoNotFollow();
        layersNotDescribed();
        entriesAreNumberedFromZero();
        entriesWithoutBits();
        repetitionsAndLayersAreNotEntered();
        Checks.end();
    }

    /** An entry of layer 0. */
    private static long[] row(int name, int firstBit, int bits, int mark, long value) {
        return Checks.row(0, name, firstBit, bits, mark, value);
    }

    private static CaptureBench decoded(String text, int... bytes) {
        return Checks.decoded(text, bytes);
    }

    private static void dueEntries(CaptureBench bench, long[]... want) {
        Checks.dueEntries(bench, want);
    }

    private static void framesAreTwelveAtMost() {
        Checks.sentence("FRAMES, at most 12, have a LINK, 0 or 1, a TIME, and 1 to 40 bytes.");
        CaptureBench bench = new CaptureBench();
        Checks.describe(bench, 0, "$*");
        Checks.describe(bench, 1, "$*");
        bench.root(0, 0);
        bench.root(1, 1);
        for (int k = 0; k < 12; k++) {
            int bytes = k == 0 ? 40 : k;
            Checks.due("frame " + k, Checks.addFrame(bench, k % 2, k, new int[bytes]), k);
        }
        bench.write(1, 1);
        Checks.dueIllegalState("a thirteenth frame", () -> bench.frame(0, 99));
        for (int k = 0; k < 12; k++) {
            int bytes = k == 0 ? 40 : k;
            Checks.dueEntriesOf(bench, k, Checks.row(k % 2, BLOCK, 0, 8 * bytes, 0, bytes));
        }
        Checks.dueOutOfBounds("decode(12)", () -> bench.decode(12));
        Checks.due("the time of the first", bench.drop(0), 0);
        Checks.due("the time of the last", bench.drop(10), 11);
    }

    private static void framesOfOneTime() {
        Checks.sentence("They are numbered 0, 1, .. by their times, those of one time in the order "
                + "in which they came.");
        CaptureBench bench = Checks.benchWith("a8");
        int most = Integer.MAX_VALUE;
        int[] times = {most, 0, most, 0, 1, most - 1, 0};
        int[] numbers = {0, 0, 2, 1, 2, 3, 2};
        for (int k = 0; k < times.length; k++) {
            Checks.due("frame of time " + times[k], Checks.addFrame(bench, 0, times[k], k),
                    numbers[k]);
        }
        int[] order = {1, 3, 6, 4, 5, 0, 2};
        for (int k = 0; k < order.length; k++) {
            Checks.due("value(" + k + ", 0)", bench.value(k, 0), order[k]);
        }
    }

    private static void bitsFromTheHighestOn() {
        Checks.sentence("A frame's BITS are those of its bytes, each from the highest one on.");
        dueEntries(decoded("a1b1c5d1e1f1g6", 0x80, 0x01),
                row(0, 0, 1, 0, 1), row(1, 1, 1, 0, 0), row(2, 2, 5, 0, 0), row(3, 7, 1, 0, 0),
                row(4, 8, 1, 0, 0), row(5, 9, 1, 0, 0), row(6, 10, 6, 0, 1));
        dueEntries(decoded("a7b2c7", 0x01, 0x80),
                row(0, 0, 7, 0, 0), row(1, 7, 2, 0, 3), row(2, 9, 7, 0, 0));
    }

    private static void decodingBeginsWithTheRoot() {
        Checks.sentence("DECODING a frame begins at its first bit with the layer that is the ROOT "
                + "of its link.");
        CaptureBench bench = new CaptureBench();
        for (int layer = 0; layer < 4; layer++) {
            Checks.describe(bench, layer, "a8");
        }
        bench.root(0, 3);
        Checks.addFrame(bench, 0, 0, 5);
        Checks.addFrame(bench, 1, 1, 6);
        Checks.dueEntriesOf(bench, 0, Checks.row(3, 0, 0, 8, 0, 5));
        Checks.dueEntriesOf(bench, 1);
        bench.root(1, 0);
        Checks.dueEntriesOf(bench, 0, Checks.row(3, 0, 0, 8, 0, 5));
        Checks.dueEntriesOf(bench, 1, Checks.row(0, 0, 0, 8, 0, 6));
        bench.root(0, -1);
        Checks.dueEntriesOf(bench, 0);
        Checks.dueEntriesOf(bench, 1, Checks.row(0, 0, 0, 8, 0, 6));
    }

    private static void bitsAreTakenOnce() {
        Checks.sentence("To RUN a layer is to go through its items; there is a place in the frame, "
                + "to which all bits before it were taken.");
        // The last bit of the longest frame is taken by the last item.
        int[] bytes = new int[40];
        bytes[39] = 1;
        dueEntries(decoded("a7$*b1", bytes),
                row(0, 0, 7, 0, 0), row(BLOCK, 7, 312, 0, 39), row(1, 319, 1, 0, 1));
        dueEntries(decoded("a8?a=1(b8)?a=0(c8)#a(d8)e8", 1, 2, 3, 4),
                row(0, 0, 8, 0, 1), row(1, 8, 8, 0, 2), row(3, 16, 8, 0, 3), row(4, 24, 8, 0, 4));
    }

    /** That decoding frame 0 makes so many steps: with one less in the limit it is cut off. */
    private static void dueSteps(CaptureBench bench, int steps) {
        bench.limit(steps);
        int last = bench.decode(0) - 1;
        Checks.due("the last mark within " + steps + " steps", bench.entry(0, last, 4), 0);
        bench.limit(steps - 1);
        last = bench.decode(0) - 1;
        Checks.due("the last mark within a step less", bench.entry(0, last, 4), 4);
    }

    private static void whatIsAStep() {
        Checks.sentence("STEPS are made: a layer begins, a field, a block, or one more repetition "
                + "of a group.");
        dueSteps(decoded("a8", 1), 2);
        dueSteps(decoded("a8b8", 1, 2), 3);
        dueSteps(decoded("$*", 1), 2);
        dueSteps(decoded("a8$*$*", 1), 4);
        dueSteps(decoded("a8#a(b8)", 1, 1), 4);
        dueSteps(decoded("a8#a(b8)", 3, 1, 1, 1), 8);
        dueSteps(decoded("#*(a8)", 1, 1, 1), 7);
        // Neither a group without repetitions nor an option is a step of its own.
        dueSteps(decoded("a8#a(b8)c8", 0, 1), 3);
        dueSteps(decoded("a8?a=1(b8)c8", 1, 1, 1), 4);
        dueSteps(decoded("a8?a=2(b8)c8", 1, 1), 3);
        dueSteps(decoded("a8?a=1(?a<2(?a=1(b8)))", 1, 1), 3);
        CaptureBench bench = decoded("a8>a", 1, 2);
        Checks.describe(bench, 1, "b8");
        bench.follow(0, 1, 1);
        dueSteps(bench, 4);
    }

    private static void stepBehindTheLimit() {
        Checks.sentence("When the limit of steps was reached, the step that comes next is not "
                + "made, but ENTERED with mark 4, and decoding is over.");
        CaptureBench bench = decoded("a8b8$a#a(c8)d8>a", 1, 2, 3, 4, 5, 6);
        Checks.describe(bench, 3, "e8");
        bench.follow(0, 1, 3);
        long[][] made = {
            row(0, 0, 8, 0, 1), row(1, 8, 8, 0, 2), row(BLOCK, 16, 8, 0, 1), row(2, 24, 8, 0, 4),
            row(3, 32, 8, 0, 5), Checks.row(3, 4, 40, 8, 0, 6)
        };
        long[][] next = {
            row(0, 0, 0, 4, 0), row(1, 8, 0, 4, 0), row(BLOCK, 16, 0, 4, 0),
            row(REPETITION, 24, 0, 4, 0), row(2, 24, 0, 4, 0), row(3, 32, 0, 4, 0),
            Checks.row(3, LAYER_BEGINS, 40, 0, 4, 0), Checks.row(3, 4, 40, 0, 4, 0)
        };
        int[] madeBefore = {0, 1, 2, 3, 3, 4, 5, 5};
        for (int k = 0; k < next.length; k++) {
            bench.limit(k + 1);
            long[][] want = java.util.Arrays.copyOf(made, madeBefore[k] + 1);
            want[madeBefore[k]] = next[k];
            dueEntries(bench, want);
        }
        bench.limit(9);
        dueEntries(bench, made);
    }

    private static void noStepBehindTheLimit() {
        Checks.sentence("When the limit of steps was reached, the step that comes next is not "
                + "made, but ENTERED with mark 4, and decoding is over.");
        String[] texts = {"a8", "a8>a", "a8?a=9(b8)", "a8#a(b8)", "a8#*(b8)", "a8?a=9(b8)>b"};
        for (String text : texts) {
            CaptureBench bench = decoded(text, 0);
            bench.limit(2);
            dueEntries(bench, row(0, 0, 8, 0, 0));
        }
    }

    private static void limitGoesBeforeOtherMarks() {
        Checks.sentence("When the limit of steps was reached, the step that comes next is not "
                + "made, but ENTERED with mark 4, and decoding is over.");
        String[] texts = {"a8b9", "a8b8=9", "a8b8!"};
        int[] marks = {1, 2, 3};
        for (int k = 0; k < texts.length; k++) {
            CaptureBench bench = decoded(texts[k], 7, 8);
            Checks.due("mark without the limit", bench.entry(0, 1, 4), marks[k]);
            bench.limit(2);
            dueEntries(bench, row(0, 0, 8, 0, 7), row(1, 8, 0, 4, 0));
        }
        CaptureBench bench = decoded("a8$a", 7, 8);
        bench.limit(2);
        dueEntries(bench, row(0, 0, 8, 0, 7), row(BLOCK, 8, 0, 4, 0));
    }

    private static void fieldValues() {
        Checks.sentence("A field takes as many bits as its width; its value is the number that "
                + "they are, the highest first; with < that of their bytes, of eight bits each, in "
                + "the other order.");
        dueEntries(decoded("a32b32<c16d16<e24f24<",
                        0x80, 0, 0, 1, 0x80, 0, 0, 1, 0x80, 1, 0x80, 1, 0x80, 0, 1, 0x80, 0, 1),
                row(0, 0, 32, 0, 0x80000001L), row(1, 32, 32, 0, 0x01000080L),
                row(2, 64, 16, 0, 0x8001), row(3, 80, 16, 0, 0x0180),
                row(4, 96, 24, 0, 0x800001), row(5, 120, 24, 0, 0x010080));
        // All bits, so that a sign would show, and bytes that lie across those of the frame.
        dueEntries(decoded("a32<b4c32<", 255, 255, 255, 255, 0x1F, 0xEF, 0xEF, 0xEF, 0xE0),
                row(0, 0, 32, 0, 0xFFFFFFFFL), row(1, 32, 4, 0, 1),
                row(2, 36, 32, 0, 0xFEFEFEFEL));
        dueEntries(decoded("a1b31c31d1", 0x80, 0, 0, 0, 0, 0, 0, 1),
                row(0, 0, 1, 0, 1), row(1, 1, 31, 0, 0), row(2, 32, 31, 0, 0),
                row(3, 63, 1, 0, 1));
    }

    private static void fieldsWithTooFewBits() {
        Checks.sentence("If there are not so many bits, it is entered with mark 1 and the value 0, "
                + "and decoding is over.");
        dueEntries(decoded("a8", 255), row(0, 0, 8, 0, 255));
        dueEntries(decoded("a9", 255), row(0, 0, 0, 1, 0));
        dueEntries(decoded("a32", 255, 255, 255), row(0, 0, 0, 1, 0));
        dueEntries(decoded("a8b1", 255), row(0, 0, 8, 0, 255), row(1, 8, 0, 1, 0));
        // None of what comes behind is run: no shorter field, no repetition, no layer.
        dueEntries(decoded("a4b5c4", 255), row(0, 0, 4, 0, 15), row(1, 4, 0, 1, 0));
        dueEntries(decoded("a4#a(b5)c1", 0x2F), row(0, 0, 4, 0, 2), row(1, 4, 0, 1, 0));
        dueEntries(decoded("a4?a=2(b5)c1", 0x2F), row(0, 0, 4, 0, 2), row(1, 4, 0, 1, 0));
        CaptureBench bench = decoded("a4b5>a", 0x2F);
        Checks.describe(bench, 1, "c1");
        bench.follow(0, 2, 1);
        bench.follow(0, 0, 1);
        dueEntries(bench, row(0, 0, 4, 0, 2), row(1, 4, 0, 1, 0));
        dueEntries(decoded("a4b5=0", 255), row(0, 0, 4, 0, 15), row(1, 4, 0, 1, 0));
        dueEntries(decoded("a4b5=1", 255), row(0, 0, 4, 0, 15), row(1, 4, 0, 1, 0));
        dueEntries(decoded("a4b5!", 255), row(0, 0, 4, 0, 15), row(1, 4, 0, 1, 0));
        dueEntries(decoded("a8b16<", 255, 255), row(0, 0, 8, 0, 255), row(1, 8, 0, 1, 0));
    }

    private static void fieldsThatAreAnotherNumber() {
        Checks.sentence("Otherwise it is entered with its value: with = NUMBER that is another one "
                + "with mark 2, and decoding is over");
        for (int value = 0; value < 256; value += 51) {
            dueEntries(decoded("a8=" + value + "b8", value, 9),
                    row(0, 0, 8, 0, value), row(1, 8, 8, 0, 9));
            dueEntries(decoded("a8=" + (value + 1) + "b8", value, 9), row(0, 0, 8, 2, value));
            dueEntries(decoded("a8=" + (value + 256) + "b8", value, 9), row(0, 0, 8, 2, value));
        }
        dueEntries(decoded("a8=0b8", 1, 9), row(0, 0, 8, 2, 1));
        dueEntries(decoded("a16<=258b8", 2, 1, 9), row(0, 0, 16, 0, 258), row(1, 16, 8, 0, 9));
        dueEntries(decoded("a16<=258b8", 1, 2, 9), row(0, 0, 16, 2, 513));
        dueEntries(decoded("#*(a8=1)", 1, 2, 1), row(0, 0, 8, 0, 1), row(0, 8, 8, 2, 2));
        CaptureBench bench = decoded("a8=1>a", 2, 3);
        Checks.describe(bench, 1, "b8");
        bench.follow(0, 1, 1);
        bench.follow(0, 2, 1);
        dueEntries(bench, row(0, 0, 8, 2, 2));
    }

    private static void dueSum(String text, int mark, int... bytes) {
        CaptureBench bench = decoded(text, bytes);
        int last = bench.decode(0) - 1;
        Checks.due("the mark of the sum in " + text, bench.entry(0, last, 4), mark);
    }

    private static void sumsModuloTheWidth() {
        Checks.sentence("with ! and a value other than the sum, modulo 2 to its width");
        dueSum("a16b8!", 0, 255, 0, 255);
        dueSum("a16b8!", 0, 255, 1, 0);
        dueSum("a16b8!", 3, 255, 1, 1);
        dueSum("a16b8!", 3, 255, 1, 255);
        dueSum("a16b8!", 0, 255, 255, 254);
        dueSum("a16b16!", 0, 255, 1, 1, 0);
        dueSum("a16b16!", 3, 255, 1, 0, 0);
        dueSum("a16b16<!", 0, 255, 1, 0, 1);
        dueSum("a16b16<!", 3, 255, 1, 1, 0);
        dueSum("a16b1!", 0, 2, 3, 0x80);
        dueSum("a16b1!", 3, 2, 3, 0x00);
        dueSum("a16b1!", 0, 3, 3, 0x7F);
        dueSum("a32b32!", 0, 255, 255, 255, 255, 0, 0, 0x03, 0xFC);
        dueSum("a32b32!", 3, 255, 255, 255, 255, 0x80, 0, 0x03, 0xFC);
        dueSum("a32b32!", 3, 255, 255, 255, 255, 0, 0, 0x03, 0xFD);
    }

    private static void sumsOfWholeBytesBetween() {
        Checks.sentence("of all bytes of the frame that lie wholly between the place where this "
                + "run of the layer began and the field, with mark 3");
        // None lies between, neither the field's own nor those behind it.
        dueSum("a8!", 0, 0);
        dueSum("a8!", 3, 1);
        dueSum("a8!", 0, 0, 7);
        dueSum("a8b8!", 0, 7, 7, 7);
        // A byte of which a bit belongs to the field, or is before the run, is not whole.
        dueSum("a15b1!", 0, 1, 1);
        dueSum("a15b1!", 3, 1, 0);
        dueSum("a16b1!", 0, 1, 1, 0);
        dueSum("a12b8!", 0, 5, 0x30, 0x50);
        dueSum("a7b9!", 0, 0, 0);
        dueSum("a7b9!", 3, 2, 2);
        // Blocks count, and so does what an option or a repetition took.
        dueSum("a8$ab8!", 0, 2, 3, 4, 9);
        dueSum("a8#a(b8)c8!", 0, 2, 3, 4, 9);
        CaptureBench bench = decoded("a8b8>a", 1, 50, 6, 7, 13);
        Checks.describe(bench, 1, "c16d8!");
        bench.follow(0, 1, 1);
        Checks.due("a run that began at the third byte", bench.entry(0, 3, 4), 0);
        Checks.describe(bench, 0, "a8b7>a");
        Checks.describe(bench, 1, "c17d8!");
        Checks.due("a run that began within the second byte", bench.entry(0, 3, 4), 0);
        Checks.describe(bench, 0, "a8b8c1>a");
        Checks.describe(bench, 1, "d15e8!");
        Checks.due("a run that began within the third byte", bench.entry(0, 4, 4), 3);
        bench = decoded("a8b8!>a", 1, 1, 1, 1, 1);
        bench.follow(0, 1, 0);
        dueEntries(bench, row(0, 0, 8, 0, 1), row(1, 8, 8, 0, 1), row(0, 16, 8, 0, 1),
                row(1, 24, 8, 0, 1), row(0, 32, 8, 0, 1), row(1, 40, 0, 1, 0));
    }

    private static void sumsLetDecodingGoOn() {
        Checks.sentence("of all bytes of the frame that lie wholly between the place where this "
                + "run of the layer began and the field, with mark 3; otherwise with mark 0.");
        CaptureBench bench = decoded("a8b8!$b?b=2(c8)>b", 1, 2, 3, 4, 5, 6);
        Checks.describe(bench, 1, "d8");
        bench.follow(0, 2, 1);
        dueEntries(bench, row(0, 0, 8, 0, 1), row(1, 8, 8, 3, 2), row(BLOCK, 16, 16, 0, 2),
                row(2, 32, 8, 0, 5), Checks.row(1, 3, 40, 8, 0, 6));
    }

    private static void blocksOfAllSizes() {
        Checks.sentence("A block takes as many bytes (of eight bits) as its COUNT's value, * as "
                + "many as there still are");
        dueEntries(decoded("a8$a", 0), row(0, 0, 8, 0, 0), row(BLOCK, 8, 0, 0, 0));
        dueEntries(decoded("a8$ab8", 0, 4),
                row(0, 0, 8, 0, 0), row(BLOCK, 8, 0, 0, 0), row(1, 8, 8, 0, 4));
        dueEntries(decoded("a8$ab8", 1, 4, 5),
                row(0, 0, 8, 0, 1), row(BLOCK, 8, 8, 0, 1), row(1, 16, 8, 0, 5));
        int[] longest = new int[40];
        longest[0] = 39;
        dueEntries(decoded("a8$a", longest), row(0, 0, 8, 0, 39), row(BLOCK, 8, 312, 0, 39));
        dueEntries(decoded("$*", new int[40]), row(BLOCK, 0, 320, 0, 40));
        dueEntries(decoded("a8$*$*", 1), row(0, 0, 8, 0, 1), row(BLOCK, 8, 0, 0, 0),
                row(BLOCK, 8, 0, 0, 0));
    }

    private static void blocksOfUnfilledBytes() {
        Checks.sentence("A block takes as many bytes (of eight bits) as its COUNT's value, * as "
                + "many as there still are");
        dueEntries(decoded("a1$*b7", 255), row(0, 0, 1, 0, 1), row(BLOCK, 1, 0, 0, 0),
                row(1, 1, 7, 0, 127));
        dueEntries(decoded("a1$*b7", 255, 254), row(0, 0, 1, 0, 1), row(BLOCK, 1, 8, 0, 1),
                row(1, 9, 7, 0, 126));
        dueEntries(decoded("a7$*b1", 255, 254), row(0, 0, 7, 0, 127), row(BLOCK, 7, 8, 0, 1),
                row(1, 15, 1, 0, 0));
    }

    private static void blocksWithTooFewBytes() {
        Checks.sentence("with too few it is entered with mark 1, as a field is; else with mark 0, "
                + "its value being the number of bytes.");
        dueEntries(decoded("a8$a", 2, 5, 6), row(0, 0, 8, 0, 2), row(BLOCK, 8, 16, 0, 2));
        dueEntries(decoded("a8$a", 2, 5), row(0, 0, 8, 0, 2), row(BLOCK, 8, 0, 1, 0));
        dueEntries(decoded("a8$a", 1), row(0, 0, 8, 0, 1), row(BLOCK, 8, 0, 1, 0));
        // Seven bits are too few for a byte, and fifteen for two.
        dueEntries(decoded("a1$ab1", 255), row(0, 0, 1, 0, 1), row(BLOCK, 1, 0, 1, 0));
        dueEntries(decoded("a2b7$ac1", 0x80, 0, 0), row(0, 0, 2, 0, 2), row(1, 2, 7, 0, 0),
                row(BLOCK, 9, 0, 1, 0));
        dueEntries(decoded("a2b6$ac1", 0x80, 0, 0), row(0, 0, 2, 0, 2), row(1, 2, 6, 0, 0),
                row(BLOCK, 8, 16, 0, 2), row(2, 24, 0, 1, 0));
        // Counts that would be small or below 0 in an int, as bytes or as bits.
        int[] highest = {0xFF, 0x80, 0x20, 0x40, 0x1F};
        for (int high : highest) {
            int low = high == 0x20 || high == 0x40 || high == 0x80 ? 0 : 255;
            long count = (long) high << 24 | low << 16 | low << 8 | low;
            dueEntries(decoded("a32$ab8", high, low, low, low, 1, 2),
                    row(0, 0, 32, 0, count), row(BLOCK, 32, 0, 1, 0));
        }
        CaptureBench bench = decoded("a8$ab8>a", 2, 5);
        Checks.describe(bench, 1, "c8");
        bench.follow(0, 2, 1);
        dueEntries(bench, row(0, 0, 8, 0, 2), row(BLOCK, 8, 0, 1, 0));
        dueEntries(decoded("a8#a($ab8)c8", 2, 5), row(0, 0, 8, 0, 2), row(BLOCK, 8, 0, 1, 0));
    }

    private static void groupsWithoutRepetitions() {
        Checks.sentence("A group is repeated as often as its COUNT's value, with * until no bit is "
                + "left.");
        dueEntries(decoded("a8#a(b8)c8", 0, 9), row(0, 0, 8, 0, 0), row(2, 8, 8, 0, 9));
        dueEntries(decoded("a8#a(b8)c8", 1, 9, 8), row(0, 0, 8, 0, 1), row(1, 8, 8, 0, 9),
                row(2, 16, 8, 0, 8));
        dueEntries(decoded("a8#a(b8)c8", 2, 9, 8), row(0, 0, 8, 0, 2), row(1, 8, 8, 0, 9),
                row(1, 16, 8, 0, 8), row(2, 24, 0, 1, 0));
        dueEntries(decoded("a8#a(b8)", 2, 9), row(0, 0, 8, 0, 2), row(1, 8, 8, 0, 9),
                row(1, 16, 0, 1, 0));
        dueEntries(decoded("a8?a=9(b8)#b(c8)d8", 1, 2), row(0, 0, 8, 0, 1), row(3, 8, 8, 0, 2));
        // The count of an inner group is that of its own repetition.
        dueEntries(decoded("#*(a8#a(b8))", 0, 2, 7, 8, 0), row(0, 0, 8, 0, 0), row(0, 8, 8, 0, 2),
                row(1, 16, 8, 0, 7), row(1, 24, 8, 0, 8), row(0, 32, 8, 0, 0));
    }

    private static void groupsUntilNoBitIsLeft() {
        Checks.sentence("A group is repeated as often as its COUNT's value, with * until no bit is "
                + "left.");
        dueEntries(decoded("a8#*(b8)", 1), row(0, 0, 8, 0, 1));
        dueEntries(decoded("a8#*(b8)c1", 1), row(0, 0, 8, 0, 1), row(2, 8, 0, 1, 0));
        dueEntries(decoded("#*(a4)", 0x12), row(0, 0, 4, 0, 1), row(0, 4, 4, 0, 2));
        dueEntries(decoded("#*(a7)", 0x12), row(0, 0, 7, 0, 9), row(0, 7, 0, 1, 0));
        dueEntries(decoded("#*(a8b8)", 1, 2, 3), row(0, 0, 8, 0, 1), row(1, 8, 8, 0, 2),
                row(0, 16, 8, 0, 3), row(1, 24, 0, 1, 0));
        // The inner group takes all bits, so that the outer one ends behind it.
        dueEntries(decoded("#*(a8#*(b8)c8)", 1, 2), row(0, 0, 8, 0, 1), row(1, 8, 8, 0, 2),
                row(2, 16, 0, 1, 0));
        dueEntries(decoded("#*(a8#*(b8))", 1, 2), row(0, 0, 8, 0, 1), row(1, 8, 8, 0, 2));
        dueEntries(decoded("#*($*)", 1, 2), row(BLOCK, 0, 16, 0, 2));
    }

    private static void groupsThatTakeNothing() {
        Checks.sentence("A group is repeated as often as its COUNT's value, with * until no bit is "
                + "left.");
        dueEntries(decoded("a8#*(?a=9(b8))", 1, 2), row(0, 0, 8, 0, 1),
                row(REPETITION, 8, 0, 4, 0));
        dueEntries(decoded("a32#a(?a=9(b8))", 255, 255, 255, 255), row(0, 0, 32, 0, 0xFFFFFFFFL),
                row(REPETITION, 32, 0, 4, 0));
        dueEntries(decoded("a8#a(?a=9(b8))c8", 61, 2), row(0, 0, 8, 0, 61), row(2, 8, 8, 0, 2));
        dueEntries(decoded("a8#a(?a=9(b8))c8", 62, 2), row(0, 0, 8, 0, 62), row(2, 8, 0, 4, 0));
        dueEntries(decoded("a8#a(?a=9(b8))c8", 63, 2), row(0, 0, 8, 0, 63),
                row(REPETITION, 8, 0, 4, 0));
    }

    private static void optionsAtTheirNumber() {
        Checks.sentence("An option's items are run if the value of its NAME is NUMBER, or less "
                + "than NUMBER.");
        int[] values = {0, 1, 4, 5, 6, 254, 255};
        int[] numbers = {0, 1, 5, 6, 255, 256, 999999};
        for (int value : values) {
            for (int number : numbers) {
                CaptureBench bench = decoded("a8?a=" + number + "(b8)", value, 7);
                Checks.due(value + " = " + number, bench.decode(0), value == number ? 2 : 1);
                bench = decoded("a8?a<" + number + "(b8)", value, 7);
                Checks.due(value + " < " + number, bench.decode(0), value < number ? 2 : 1);
            }
        }
        int[][] wide = {{255, 255, 255, 255}, {128, 0, 0, 0}, {128, 0, 0, 1}};
        for (int[] a : wide) {
            dueEntries(decoded("a32?a<999999(b8)?a=1(c8)", a[0], a[1], a[2], a[3], 7),
                    row(0, 0, 32, 0, (long) a[0] << 24 | a[1] << 16 | a[2] << 8 | a[3]));
        }
    }

    private static void valueIsTheLatest() {
        Checks.sentence("The VALUE of a NAME is that of the latest field of that name in this run "
                + "of the layer, 0 when there was none yet.");
        CaptureBench bench = decoded("a8#a(b8)$bc8>b", 2, 9, 1, 5, 6, 7);
        Checks.describe(bench, 1, "d8");
        bench.follow(0, 1, 1);
        dueEntries(bench, row(0, 0, 8, 0, 2), row(1, 8, 8, 0, 9), row(1, 16, 8, 0, 1),
                row(BLOCK, 24, 8, 0, 1), row(2, 32, 8, 0, 6), Checks.row(1, 3, 40, 8, 0, 7));
        // None was there yet: no byte, no repetition, and an option for 0.
        dueEntries(decoded("a8?a=9(b8)$b#b(c8)?b=0(d8)?b<1(e8)?b<0(f8)?b=1(g8)", 1, 2, 3, 4),
                row(0, 0, 8, 0, 1), row(BLOCK, 8, 0, 0, 0), row(3, 8, 8, 0, 2),
                row(4, 16, 8, 0, 3));
    }

    private static void valueIsOfThisRun() {
        Checks.sentence("The VALUE of a NAME is that of the latest field of that name in this run "
                + "of the layer, 0 when there was none yet.");
        for (int name = 1; name < 8; name++) {
            String b = "" + (char) ('a' + name);
            CaptureBench bench = decoded("a8?a=1(" + b + "8)$" + b + ">a", 1, 1, 77, 2, 88);
            bench.follow(0, 1, 0);
            dueEntries(bench, row(0, 0, 8, 0, 1), row(name, 8, 8, 0, 1), row(BLOCK, 16, 8, 0, 1),
                    row(0, 24, 8, 0, 2), row(BLOCK, 32, 0, 0, 0));
        }
        CaptureBench first = decoded("h8?h=1(a8)$a>h", 1, 1, 77, 2, 88);
        first.follow(0, 1, 0);
        dueEntries(first, row(7, 0, 8, 0, 1), row(0, 8, 8, 0, 1), row(BLOCK, 16, 8, 0, 1),
                row(7, 24, 8, 0, 2), row(BLOCK, 32, 0, 0, 0));
        // A name of the layer before, which is that of another field in this one.
        CaptureBench bench = decoded("a8b8>a", 1, 1, 3, 88);
        Checks.describe(bench, 1, "a8?a=9(b8)$b");
        bench.follow(0, 1, 1);
        dueEntries(bench, row(0, 0, 8, 0, 1), row(1, 8, 8, 0, 1), Checks.row(1, 0, 16, 8, 0, 3),
                Checks.row(1, BLOCK, 24, 0, 0, 0));
        // Another frame is another run.
        bench = decoded("a8?a=1(b8)$b", 1, 1, 77);
        Checks.addFrame(bench, 0, 1, 2, 77);
        Checks.due("decode(0)", bench.decode(0), 3);
        Checks.dueEntriesOf(bench, 1, row(0, 0, 8, 0, 2), row(BLOCK, 8, 0, 0, 0));
    }

    private static void layersThatFollow() {
        Checks.sentence("When a layer's items are run and there is > NAME, and a field of that "
                + "name was entered in this run, the layer that FOLLOWS this one by its value is "
                + "run, from that place on, if there is one; otherwise decoding is over.");
        CaptureBench bench = decoded("a8>a", 0, 0, 5);
        bench.follow(0, 0, 0);
        dueEntries(bench, row(0, 0, 8, 0, 0), row(0, 8, 8, 0, 0), row(0, 16, 8, 0, 5));
        // With no bit left the layer still begins.
        bench = decoded("a8>a", 5);
        Checks.describe(bench, 2, "$*b1");
        bench.follow(0, 5, 2);
        dueEntries(bench, row(0, 0, 8, 0, 5), Checks.row(2, BLOCK, 8, 0, 0, 0),
                Checks.row(2, 1, 8, 0, 1, 0));
        bench = decoded("a3>a", 0xA6);
        Checks.describe(bench, 3, "b5");
        bench.follow(0, 5, 3);
        dueEntries(bench, row(0, 0, 3, 0, 5), Checks.row(3, 1, 3, 5, 0, 6));
        bench = decoded("a32>a", 0x7F, 255, 255, 255, 1);
        Checks.describe(bench, 1, "b8");
        bench.follow(0, Integer.MAX_VALUE, 1);
        dueEntries(bench, row(0, 0, 32, 0, Integer.MAX_VALUE), Checks.row(1, 1, 32, 8, 0, 1));
    }

    private static void layersThatDoNotFollow() {
        Checks.sentence("When a layer's items are run and there is > NAME, and a field of that "
                + "name was entered in this run, the layer that FOLLOWS this one by its value is "
                + "run, from that place on, if there is one; otherwise decoding is over.");
        // No >, no such field in this run, nothing by this value but for another layer.
        String[] texts = {"a8", "a8?a=9(b8)>b", "a8>a"};
        for (String text : texts) {
            CaptureBench bench = decoded(text, 1, 2);
            Checks.describe(bench, 1, "c8");
            bench.follow(0, 0, 1);
            bench.follow(0, 2, 1);
            bench.follow(1, 1, 1);
            dueEntries(bench, row(0, 0, 8, 0, 1));
        }
        // It was entered in the run before alone.
        CaptureBench bench = decoded("a8?a=1(b8)>b", 1, 7, 2, 9);
        Checks.describe(bench, 1, "c8");
        bench.follow(0, 7, 0);
        bench.follow(0, 0, 1);
        dueEntries(bench, row(0, 0, 8, 0, 1), row(1, 8, 8, 0, 7), row(0, 16, 8, 0, 2));
        // No int is such a value, not even one that has the same bits.
        int[][] beyond = {{128, 0, 0, 0}, {255, 255, 255, 255}};
        for (int[] a : beyond) {
            bench = decoded("a32>a", a[0], a[1], a[2], a[3], 1);
            Checks.describe(bench, 1, "b8");
            bench.follow(0, 0, 1);
            bench.follow(0, Integer.MAX_VALUE, 1);
            Checks.due("beyond an int", bench.decode(0), 1);
        }
    }

    private static void layersNotDescribed() {
        Checks.sentence("It is also over when a layer is to be run that was not described.");
        CaptureBench bench = new CaptureBench();
        bench.root(0, 2);
        Checks.addFrame(bench, 0, 0, 1, 2);
        dueEntries(bench);
        bench.limit(1);
        dueEntries(bench);
        bench.limit(64);
        Checks.describe(bench, 2, "a8>a");
        bench.follow(2, 1, 3);
        dueEntries(bench, Checks.row(2, 0, 0, 8, 0, 1));
        // Such a layer makes no step, so that none is entered when the limit was reached.
        bench.limit(2);
        dueEntries(bench, Checks.row(2, 0, 0, 8, 0, 1));
        Checks.describe(bench, 3, "b8");
        dueEntries(bench, Checks.row(2, 0, 0, 8, 0, 1), Checks.row(3, LAYER_BEGINS, 8, 0, 4, 0));
        // A text that is none describes nothing.
        bench.root(0, 1);
        Checks.write(bench, "a8)");
        Checks.due("layer(1) of a wrong text", bench.layer(1), 2);
        dueEntries(bench);
    }

    private static void entriesAreNumberedFromZero() {
        Checks.sentence("The ENTRIES of a frame, numbered from 0 on, have a layer, a NAME (0 for a "
                + ".. 7 for h; 8 for a block, 9 for a repetition, 10 for a layer that begins), the "
                + "number of the first bit");
        CaptureBench bench = decoded("a1b1c1d1e1f1g1h1$*", 0x55, 3);
        Checks.due("decode(0)", bench.decode(0), 9);
        for (int k = 0; k < 8; k++) {
            Checks.due("the name of entry " + k, bench.entry(0, k, 1), k);
            Checks.due("the value of entry " + k, bench.value(0, k), k % 2);
        }
        Checks.due("the name of a block", bench.entry(0, 8, 1), BLOCK);
        Checks.dueOutOfBounds("entry(0, -1, 1)", () -> bench.entry(0, -1, 1));
        Checks.dueOutOfBounds("entry(0, 9, 1)", () -> bench.entry(0, 9, 1));
    }

    private static void entriesWithoutBits() {
        Checks.sentence("the number of bits (0 for 9, 10 and with the marks 1 and 4), a value (0 "
                + "with the marks 1 and 4) and a mark.");
        // All bits of the frame are 1, and what the layer took before is not 0, either.
        dueEntries(decoded("a8b32", 255, 255, 255), row(0, 0, 8, 0, 255), row(1, 8, 0, 1, 0));
        dueEntries(decoded("a8$a", 255, 255, 255), row(0, 0, 8, 0, 255), row(BLOCK, 8, 0, 1, 0));
        String[] texts = {"a8b8", "a8$*", "a8#*(b8)", "a8>a"};
        int[] names = {1, BLOCK, REPETITION, LAYER_BEGINS};
        for (int k = 0; k < texts.length; k++) {
            CaptureBench bench = decoded(texts[k], 255, 255, 255);
            bench.follow(0, 255, 0);
            bench.limit(2);
            dueEntries(bench, row(0, 0, 8, 0, 255), row(names[k], 8, 0, 4, 0));
        }
        // With the marks 2 and 3 the bits and the value are there.
        dueEntries(decoded("a8!b8=1", 9, 255), row(0, 0, 8, 3, 9), row(1, 8, 8, 2, 255));
    }

    private static void repetitionsAndLayersAreNotEntered() {
        Checks.sentence("Repetitions and layers are entered only with mark 4 (a layer as the layer "
                + "that would begin).");
        CaptureBench bench = decoded("a8#a(b8)>a", 2, 7, 8, 9);
        Checks.describe(bench, 3, "c8");
        bench.follow(0, 2, 3);
        dueEntries(bench, row(0, 0, 8, 0, 2), row(1, 8, 8, 0, 7), row(1, 16, 8, 0, 8),
                Checks.row(3, 2, 24, 8, 0, 9));
        bench.limit(6);
        dueEntries(bench, row(0, 0, 8, 0, 2), row(1, 8, 8, 0, 7), row(1, 16, 8, 0, 8),
                Checks.row(3, LAYER_BEGINS, 24, 0, 4, 0));
        bench.limit(4);
        dueEntries(bench, row(0, 0, 8, 0, 2), row(1, 8, 8, 0, 7), row(REPETITION, 16, 0, 4, 0));
    }
}
