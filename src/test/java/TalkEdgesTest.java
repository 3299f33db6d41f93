/** The edges of talks and of joining: promises 16 to 19 and the terms on talks, by sentences. */
public final class TalkEdgesTest {
    private static final int NONE = Checks.NONE;

    public static void main(String[] args) {
        framesWithBothValues();
        talksByRisingNumbers();
        talkOfBothOrders();
        wayOfEachFrame();
        talksAreNumberedFromZero();
        talksStayAsTheyWereBuilt();
        talksEndWhenCallsAreDone();
        talksStayWhenCallsAreRefused();
        talksAnswersHowMany();
        talksRefusesWrongFields();
        talkTellsItsFacts();
        talkRefusesWhatIsNotThere();
        streamTakesTheSameWayOnly();
        streamNeedsValueAndBlock();
        streamTakesTheFirstBlock();
        streamCountsFromTheFirst();
        streamWrapsAround();
        streamKeepsTheFirstByte();
        streamEndsBelow64();
        streamAnswersHowMany();
        streamRefusesWhatIsNotThere();
        streamedAnswersNone();
        streamedStaysWhateverIsDone();
        Checks.end();
    }

    private static void dueTalk(CaptureBench bench, int k, long... want) {
        for (int what = 0; what < want.length; what++) {
            Checks.due("talk(" + k + ", " + what + ")", bench.talk(k, what), want[what]);
        }
    }

    private static void dueStreamed(CaptureBench bench, int from, int... bytes) {
        for (int k = 0; k < bytes.length; k++) {
            Checks.due("streamed(" + (from + k) + ")", bench.streamed(from + k), bytes[k]);
        }
    }

    private static void framesWithBothValues() {
        Checks.sentence("TALKS are built for two fields A and B (each a layer and a name): for "
                + "each frame, by rising numbers, that has first values of both, x and y.");
        CaptureBench bench = Checks.benchWith("a8=1b8$b");
        Checks.due("without frames", bench.talks(0, 0, 0, 1), 0);
        Checks.addFrame(bench, 0, 0, 1);
        Checks.addFrame(bench, 1, 1, 1, 0);
        Checks.addFrame(bench, 0, 2, 9, 0);
        Checks.due("no frame has both", bench.talks(0, 0, 0, 1), 0);
        Checks.addFrame(bench, 0, 3, 1, 5);
        Checks.due("one has both, though a block is too short", bench.talks(0, 0, 0, 1), 1);
        dueTalk(bench, 0, 1, 5, 1, 0, 2, 0);
        Checks.due("one field for both", bench.talks(0, 0, 0, 0), 2);
        dueTalk(bench, 0, 1, 1, 2, 0, 3, 0);
        dueTalk(bench, 1, 9, 9, 1, 0, 2, 0);
        Checks.due("a field that no frame has", bench.talks(0, 0, 0, 2), 0);
        Checks.due("a layer that no frame has", bench.talks(3, 0, 0, 0), 0);
        bench.limit(2);
        Checks.due("a field that the limit cut off", bench.talks(0, 0, 0, 1), 0);
    }

    private static void talksByRisingNumbers() {
        Checks.sentence("TALKS are built for two fields A and B (each a layer and a name): for "
                + "each frame, by rising numbers, that has first values of both, x and y.");
        CaptureBench bench = Checks.benchWith("a8b8");
        Checks.addFrame(bench, 0, 9, 1, 2);
        Checks.addFrame(bench, 0, 5, 3, 4);
        Checks.addFrame(bench, 0, 7, 2, 1);
        Checks.due("talks", bench.talks(0, 0, 0, 1), 2);
        dueTalk(bench, 0, 3, 4, 1, 0, 2, 0);
        dueTalk(bench, 1, 2, 1, 1, 1, 2, 2);
    }

    private static void talkOfBothOrders() {
        Checks.sentence("It belongs to the talk whose first frame had x and y, or y and x, if "
                + "there is one; else it begins a new one.");
        CaptureBench bench = Checks.benchWith("a8b8");
        int[][] frames = {{1, 2}, {2, 1}, {1, 1}, {2, 2}, {1, 3}, {3, 2}, {1, 2}};
        for (int k = 0; k < frames.length; k++) {
            Checks.addFrame(bench, 0, k, frames[k]);
        }
        Checks.due("talks", bench.talks(0, 0, 0, 1), 5);
        dueTalk(bench, 0, 1, 2, 2, 1, 4, 2);
        dueTalk(bench, 1, 1, 1, 1, 0, 2, 0);
        dueTalk(bench, 2, 2, 2, 1, 0, 2, 0);
        dueTalk(bench, 3, 1, 3, 1, 0, 2, 0);
        dueTalk(bench, 4, 3, 2, 1, 0, 2, 0);
        // Values that an int would hold for the same, or for one below 0.
        bench = Checks.benchWith("a32b32");
        Checks.addFrame(bench, 0, 0, 255, 255, 255, 255, 0, 0, 0, 0);
        Checks.addFrame(bench, 0, 1, 0, 0, 0, 0, 255, 255, 255, 255);
        Checks.addFrame(bench, 0, 2, 127, 255, 255, 255, 0, 0, 0, 0);
        Checks.due("talks of wide fields", bench.talks(0, 0, 0, 1), 2);
        dueTalk(bench, 0, 0xFFFFFFFFL, 0, 1, 1, 8, 8);
        dueTalk(bench, 1, 0x7FFFFFFF, 0, 1, 0, 8, 0);
    }

    private static void wayOfEachFrame() {
        Checks.sentence("It goes the SAME WAY as the first one if it has x and y in that order, "
                + "else the other way.");
        CaptureBench bench = Checks.benchWith("a8b8$*");
        Checks.addFrame(bench, 0, 0, 1, 2);
        Checks.addFrame(bench, 0, 1, 2, 1, 0);
        Checks.addFrame(bench, 0, 2, 2, 1, 0, 0);
        Checks.addFrame(bench, 0, 3, 5, 5);
        Checks.addFrame(bench, 0, 4, 5, 5, 0);
        Checks.due("talks", bench.talks(0, 0, 0, 1), 2);
        dueTalk(bench, 0, 1, 2, 1, 2, 2, 7);
        // With x and y alike there is no other way.
        dueTalk(bench, 1, 5, 5, 2, 0, 5, 0);
    }

    private static void talksAreNumberedFromZero() {
        Checks.sentence("Talks are numbered from 0 on.");
        CaptureBench bench = Checks.benchWith("a8b8");
        for (int k = 0; k < 12; k++) {
            Checks.addFrame(bench, 0, k, k, 99);
        }
        Checks.due("twelve talks", bench.talks(0, 0, 0, 1), 12);
        for (int k = 0; k < 12; k++) {
            dueTalk(bench, k, k, 99, 1, 0, 2, 0);
        }
        Checks.dueOutOfBounds("talk(-1, 0)", () -> bench.talk(-1, 0));
        Checks.dueOutOfBounds("talk(12, 0)", () -> bench.talk(12, 0));
    }

    private static void talksStayAsTheyWereBuilt() {
        Checks.sentence("They stay as they were built, until one of layer(), root(), follow(), "
                + "frame(), drop() and limit() is done");
        CaptureBench bench = talking();
        bench.wipe();
        bench.write(2, 'a' << 8 | '0');
        bench.filter(2);
        bench.next(2, 0);
        bench.total(2, 0, 0, 0);
        bench.decode(0);
        bench.entry(0, 0, 0);
        bench.value(0, 0);
        bench.stream(0, 0, 0);
        bench.streamed(0);
        bench.talk(0, 0);
        dueTalk(bench, 0, 1, 1, 1, 0, 2, 0);
        // Others take their place when they are built for other fields.
        Checks.due("talks of no such field", bench.talks(0, 7, 0, 7), 0);
        Checks.dueOutOfBounds("talk(0, 0) then", () -> bench.talk(0, 0));
    }

    /** A bench with one talk, an empty draft, one frame, and eight followed values of layer 0. */
    private static CaptureBench talking() {
        CaptureBench bench = Checks.benchWith("a8$*");
        for (int value = 0; value < 8; value++) {
            bench.follow(0, value, 1);
        }
        Checks.addFrame(bench, 0, 4, 1, 2);
        Checks.due("talks", bench.talks(0, 0, 0, 0), 1);
        dueTalk(bench, 0, 1, 1, 1, 0, 2, 0);
        return bench;
    }

    private interface Call {
        void on(CaptureBench bench);
    }

    private static void dueNoTalks(String what, Call call) {
        CaptureBench bench = talking();
        call.on(bench);
        Checks.dueOutOfBounds("talk(0, 0) behind " + what, () -> bench.talk(0, 0));
        Checks.dueOutOfBounds("stream(0, 0, 0) behind " + what, () -> bench.stream(0, 0, 0));
    }

    private static void talksEndWhenCallsAreDone() {
        Checks.sentence("(not when it throws, or answers a place; but also when it changes "
                + "nothing); then there are none.");
        dueNoTalks("layer()", bench -> Checks.describe(bench, 3, "a8"));
        dueNoTalks("layer() of the same text", bench -> Checks.describe(bench, 0, "a8$*"));
        dueNoTalks("root()", bench -> bench.root(1, 3));
        dueNoTalks("root() to the same layer", bench -> bench.root(0, 0));
        dueNoTalks("root() to none again", bench -> bench.root(1, NONE));
        dueNoTalks("follow()", bench -> bench.follow(1, 5, 2));
        dueNoTalks("follow() by the same", bench -> bench.follow(0, 7, 1));
        dueNoTalks("follow() of none", bench -> bench.follow(0, 7, NONE));
        dueNoTalks("follow() of none, with none there", bench -> bench.follow(0, 99, NONE));
        dueNoTalks("frame()", bench -> Checks.addFrame(bench, 1, 9, 1));
        dueNoTalks("drop()", bench -> bench.drop(0));
        dueNoTalks("limit()", bench -> bench.limit(5));
        dueNoTalks("limit() as it was", bench -> bench.limit(64));
    }

    private static void dueTalks(String what, Call call) {
        CaptureBench bench = talking();
        call.on(bench);
        Checks.due("talk(0, 4) behind " + what, bench.talk(0, 4), 2);
        Checks.due("stream(0, 0, 0) behind " + what, bench.stream(0, 0, 0), 1);
    }

    private static void talksStayWhenCallsAreRefused() {
        Checks.sentence("(not when it throws, or answers a place; but also when it changes "
                + "nothing); then there are none.");
        dueTalks("layer(4)", b -> Checks.dueIllegalArgument("layer(4)", () -> b.layer(4)));
        dueTalks("layer() of no text", b -> Checks.due("layer(0)", b.layer(0), 0));
        dueTalks("root(2, 0)", b -> Checks.dueIllegalArgument("root", () -> b.root(2, 0)));
        dueTalks("root(0, 4)", b -> Checks.dueIllegalArgument("root", () -> b.root(0, 4)));
        dueTalks("follow(4, 0, 0)",
                b -> Checks.dueIllegalArgument("follow", () -> b.follow(4, 0, 0)));
        dueTalks("follow() of a ninth value",
                b -> Checks.dueIllegalState("follow", () -> b.follow(0, 8, 1)));
        dueTalks("frame(2, 0)", b -> Checks.dueIllegalArgument("frame", () -> b.frame(2, 0)));
        dueTalks("frame() of no byte", b -> Checks.dueIllegalState("frame", () -> b.frame(0, 0)));
        dueTalks("drop(1)", b -> Checks.dueOutOfBounds("drop", () -> b.drop(1)));
        dueTalks("limit(0)", b -> Checks.dueIllegalArgument("limit", () -> b.limit(0)));
        dueTalks("limit(65)", b -> Checks.dueIllegalArgument("limit", () -> b.limit(65)));
        dueTalks("talks(0, 8, 0, 0)",
                b -> Checks.dueIllegalArgument("talks", () -> b.talks(0, 8, 0, 0)));
    }

    private static void talksAnswersHowMany() {
        Checks.sentence("Talks are built for field A and field B: how many there are.");
        CaptureBench bench = Checks.benchWith("a4b4>a");
        Checks.describe(bench, 3, "h8");
        bench.follow(0, 1, 3);
        Checks.due("of no frame", bench.talks(0, 0, 0, 1), 0);
        Checks.addFrame(bench, 0, 0, 0x12, 7);
        Checks.addFrame(bench, 0, 1, 0x21, 7);
        Checks.addFrame(bench, 0, 2, 0x13, 8);
        Checks.due("of a and b", bench.talks(0, 0, 0, 1), 2);
        dueTalk(bench, 0, 1, 2, 1, 1, 2, 2);
        Checks.due("of b and a", bench.talks(0, 1, 0, 0), 2);
        dueTalk(bench, 0, 2, 1, 1, 1, 2, 2);
        Checks.due("of the least and the greatest field", bench.talks(0, 0, 3, 7), 2);
        dueTalk(bench, 0, 1, 7, 1, 0, 2, 0);
        dueTalk(bench, 1, 1, 8, 1, 0, 2, 0);
        Checks.due("of the greatest and the least field", bench.talks(3, 7, 0, 0), 2);
        dueTalk(bench, 1, 8, 1, 1, 0, 2, 0);
        Checks.due("of the greatest alone", bench.talks(3, 7, 3, 7), 2);
    }

    private static void talksRefusesWrongFields() {
        Checks.sentence("IllegalArgumentException: a layer is not 0 .. 3, or a name not 0 .. 7.");
        CaptureBench bench = new CaptureBench();
        int[] wrongLayers = {-1, 4, Integer.MIN_VALUE, Integer.MAX_VALUE};
        int[] wrongNames = {-1, 8, 9, Integer.MIN_VALUE, Integer.MAX_VALUE};
        for (int wrong : wrongLayers) {
            Checks.dueIllegalArgument("layer A " + wrong, () -> bench.talks(wrong, 0, 0, 0));
            Checks.dueIllegalArgument("layer B " + wrong, () -> bench.talks(0, 0, wrong, 0));
        }
        for (int wrong : wrongNames) {
            Checks.dueIllegalArgument("name A " + wrong, () -> bench.talks(0, wrong, 0, 0));
            Checks.dueIllegalArgument("name B " + wrong, () -> bench.talks(0, 0, 0, wrong));
        }
        for (int k = 0; k < 8; k++) {
            Checks.due("talks", bench.talks(k % 4, k, 3 - k % 4, 7 - k), 0);
        }
    }

    private static void talkTellsItsFacts() {
        Checks.sentence("Of a talk: its x (what = 0), its y (1), how many frames go the same way "
                + "(2), the other way (3), how many bytes these frames have together, the same way "
                + "(4), the other way (5).");
        CaptureBench bench = Checks.benchWith("a8b8$*");
        int[] longest = new int[40];
        longest[0] = 255;
        for (int k = 0; k < 11; k++) {
            Checks.addFrame(bench, 0, k, longest);
        }
        Checks.addFrame(bench, 0, 11, 0, 255);
        bench.talks(0, 0, 0, 1);
        dueTalk(bench, 0, 255, 0, 11, 1, 440, 2);
        // Built again, the facts are not those of both times.
        bench.talks(0, 0, 0, 1);
        dueTalk(bench, 0, 255, 0, 11, 1, 440, 2);
    }

    private static void talkRefusesWhatIsNotThere() {
        Checks.sentence("IndexOutOfBoundsException: there is no such talk; "
                + "IllegalArgumentException: another what.");
        CaptureBench none = new CaptureBench();
        Checks.dueOutOfBounds("talk(0, 0) of a new object", () -> none.talk(0, 0));
        CaptureBench bench = talking();
        int[] wrongTalks = {-1, 1, 12, Integer.MIN_VALUE, Integer.MAX_VALUE};
        for (int k : wrongTalks) {
            Checks.dueOutOfBounds("talk(" + k + ", 0)", () -> bench.talk(k, 0));
            Checks.dueOutOfBounds("talk(" + k + ", 6)", () -> bench.talk(k, 6));
        }
        int[] wrongWhats = {-1, 6, Integer.MIN_VALUE, Integer.MAX_VALUE};
        for (int what : wrongWhats) {
            Checks.dueIllegalArgument("talk(0, " + what + ")", () -> bench.talk(0, what));
        }
        dueTalk(bench, 0, 1, 1, 1, 0, 2, 0);
    }

    private static void streamTakesTheSameWayOnly() {
        Checks.sentence("Joins the bytes of a talk, the same way: of its frames that go so, by "
                + "rising numbers");
        CaptureBench bench = Checks.benchWith("a4b4c8$*");
        Checks.addFrame(bench, 0, 9, 0x12, 0, 'l');
        Checks.addFrame(bench, 0, 1, 0x12, 0, 'f');
        Checks.addFrame(bench, 0, 2, 0x21, 1, 'o');
        Checks.addFrame(bench, 0, 3, 0x13, 2, 't');
        Checks.addFrame(bench, 1, 4, 0x12, 3, 'n');
        Checks.due("talks", bench.talks(0, 0, 0, 1), 2);
        Checks.due("stream of the first talk", bench.stream(0, 0, 2), 1);
        dueStreamed(bench, 0, 'f', NONE, NONE, NONE);
        Checks.due("stream of the second talk", bench.stream(1, 0, 2), 1);
        dueStreamed(bench, 0, 't', NONE);
    }

    private static void streamNeedsValueAndBlock() {
        Checks.sentence("those that have a first value q of a layer's name and a block of that "
                + "layer with mark 0");
        CaptureBench bench = Checks.benchWith("a8?a=1(b8)c8$c>a");
        Checks.describe(bench, 1, "d8$*");
        bench.follow(0, 1, 1);
        // No b; a block that is too short; both; a layer 1 behind it.
        Checks.addFrame(bench, 0, 0, 2, 1, 'n');
        Checks.addFrame(bench, 0, 1, 1, 5, 9, 's');
        Checks.addFrame(bench, 0, 2, 1, 6, 1, 'b', 3, 'u', 'v');
        bench.talks(0, 0, 0, 0);
        Checks.due("without b", bench.stream(0, 0, 1), 0);
        dueStreamed(bench, 0, NONE, NONE);
        Checks.due("with b", bench.stream(1, 0, 1), 1);
        dueStreamed(bench, 0, 'b', NONE);
        Checks.due("of layer 1", bench.stream(1, 1, 3), 2);
        dueStreamed(bench, 0, 'u', 'v', NONE);
        Checks.due("a name of layer 1 with layer 0", bench.stream(1, 0, 3), 0);
        Checks.due("a layer that is not there", bench.stream(1, 2, 0), 0);
        // A block that the limit cut off is none.
        bench.limit(4);
        bench.talks(0, 0, 0, 0);
        Checks.due("within the limit", bench.stream(0, 0, 0), 1);
        Checks.due("behind the limit", bench.stream(1, 0, 0), 0);
        // The marks 2 and 3 leave a value; with 2 the block must stand before it.
        bench = Checks.decoded("a8!$*", 7, 'x');
        bench.talks(0, 0, 0, 0);
        Checks.due("with mark 3", bench.stream(0, 0, 0), 1);
        bench = Checks.decoded("c8$ca8=1", 1, 'x', 7);
        bench.talks(0, 2, 0, 2);
        Checks.due("with mark 2", bench.stream(0, 0, 0), 1);
        dueStreamed(bench, 0, 'x', NONE);
        bench = Checks.decoded("c8a8=1$c", 1, 7, 'x');
        bench.talks(0, 2, 0, 2);
        Checks.due("with mark 2 before the block", bench.stream(0, 0, 0), 0);
    }

    private static void streamTakesTheFirstBlock() {
        Checks.sentence("with mark 0, the first such block");
        CaptureBench bench = Checks.decoded("a8$ab8$b$*", 1, 'p', 2, 'q', 'r', 's');
        bench.talks(0, 0, 0, 0);
        Checks.due("stream by a", bench.stream(0, 0, 0), 1);
        dueStreamed(bench, 0, 'p', NONE);
        Checks.due("stream by b, which stands behind it", bench.stream(0, 0, 1), 1);
        dueStreamed(bench, 0, 'p', NONE);
        // An empty block is the first one, too.
        bench = Checks.decoded("a8$ab8$b", 0, 2, 'q', 'r');
        bench.talks(0, 0, 0, 0);
        Checks.due("stream of an empty block", bench.stream(0, 0, 0), 0);
        dueStreamed(bench, 0, NONE, NONE);
        // Its bytes may lie across those of the frame.
        bench = Checks.decoded("a3$*", 0x1F, 0xE0, 0x1F);
        bench.talks(0, 0, 0, 0);
        Checks.due("stream of a block within bytes", bench.stream(0, 0, 0), 2);
        dueStreamed(bench, 0, 0xFF, 0x00, NONE);
    }

    private static void streamCountsFromTheFirst() {
        Checks.sentence("the distance of q from that of the first of these frames, modulo 2 to the "
                + "width of that name's field, is where the block's first byte is put, the next "
                + "one behind it, and so on");
        // The first frame of the talk has no b, so that the second one tells where to begin.
        CaptureBench bench = Checks.benchWith("a8c8?c=1(b8)$*");
        Checks.addFrame(bench, 0, 0, 7, 0, 'n');
        Checks.addFrame(bench, 0, 1, 7, 1, 100, 'f');
        Checks.addFrame(bench, 0, 2, 7, 1, 103, 'x', 'y');
        Checks.addFrame(bench, 0, 3, 7, 1, 101, 'g');
        bench.talks(0, 0, 0, 0);
        Checks.due("stream", bench.stream(0, 0, 1), 4);
        dueStreamed(bench, 0, 'f', 'g', NONE, 'x', 'y', NONE);
        // The first frame's block may be empty; it still tells where to begin.
        bench = Checks.benchWith("a8b8$*");
        Checks.addFrame(bench, 0, 0, 7, 100);
        Checks.addFrame(bench, 0, 1, 7, 102, 'z');
        bench.talks(0, 0, 0, 0);
        Checks.due("stream", bench.stream(0, 0, 1), 1);
        dueStreamed(bench, 0, NONE, NONE, 'z', NONE);
    }

    private static void streamWrapsAround() {
        Checks.sentence("the distance of q from that of the first of these frames, modulo 2 to the "
                + "width of that name's field");
        int[] widths = {1, 2, 5, 6, 8, 16, 31, 32};
        for (int width : widths) {
            long most = (1L << width) - 1;
            CaptureBench bench = Checks.benchWith("b" + width + "c8$*");
            addNumbered(bench, 0, width, most, 'm');
            addNumbered(bench, 1, width, 0, 'n');
            addNumbered(bench, 2, width, 1 & most, 'o');
            bench.talks(0, 2, 0, 2);
            Checks.due("stream with width " + width, bench.stream(0, 0, 1), width == 1 ? 2 : 3);
            dueStreamed(bench, 0, 'm', 'n', width == 1 ? NONE : 'o', NONE);
        }
        // One less is the greatest distance, beyond place 63 but for narrow fields.
        int[] narrow = {1, 2, 3, 4, 5, 6, 7};
        for (int width : narrow) {
            CaptureBench bench = Checks.benchWith("b" + width + "c8$*");
            addNumbered(bench, 0, width, 1, 'm');
            addNumbered(bench, 1, width, 0, 'n');
            bench.talks(0, 2, 0, 2);
            Checks.due("stream backwards with width " + width, bench.stream(0, 0, 1),
                    width == 7 ? 1 : 2);
            dueStreamed(bench, (1 << width) - 1, width == 7 ? NONE : 'n', NONE);
        }
        // The width is that of the field that is asked for, not of another one.
        CaptureBench bench = Checks.benchWith("a4b4$*");
        Checks.addFrame(bench, 0, 0, 0x1F, 'm');
        Checks.addFrame(bench, 0, 1, 0x10, 'n');
        bench.talks(0, 0, 0, 0);
        Checks.due("stream by four bits", bench.stream(0, 0, 1), 2);
        dueStreamed(bench, 0, 'm', 'n', NONE);
        // With < the value counts, not its bytes as they lie.
        bench = Checks.benchWith("a16<c8$*");
        Checks.addFrame(bench, 0, 0, 0xFF, 0x00, 7, 'm');
        Checks.addFrame(bench, 0, 1, 0x00, 0x01, 7, 'n');
        bench.talks(0, 2, 0, 2);
        Checks.due("stream by the other order", bench.stream(0, 0, 0), 2);
        dueStreamed(bench, 0, 'm', 'n', NONE);
    }

    /** A frame of a number in so many bits, a 7 and a byte, filled with zeros to whole bytes. */
    private static void addNumbered(CaptureBench bench, int time, int width, long number,
            int last) {
        int bits = width + 16;
        int[] bytes = new int[(bits + 7) / 8];
        for (int bit = 0; bit < bits; bit++) {
            long from = bit < width ? number >> (width - 1 - bit)
                    : (7L << 8 | last) >> (bits - 1 - bit);
            bytes[bit / 8] |= (int) (from & 1) << (7 - bit % 8);
        }
        Checks.addFrame(bench, 0, time, bytes);
    }

    private static void streamKeepsTheFirstByte() {
        Checks.sentence("but only where no byte is yet");
        CaptureBench bench = Checks.benchWith("a8c8$*");
        Checks.addFrame(bench, 0, 0, 1, 10, 'a', 0);
        Checks.addFrame(bench, 0, 1, 1, 11, 'X', 'b', 255);
        Checks.addFrame(bench, 0, 2, 1, 10, 'Y', 'Y', 'Y', 'Y', 'c');
        Checks.addFrame(bench, 0, 3, 1, 10, 'Z');
        bench.talks(0, 0, 0, 0);
        Checks.due("stream", bench.stream(0, 0, 2), 5);
        // A byte that is 0 is one, too.
        dueStreamed(bench, 0, 'a', 0, 'b', 255, 'c', NONE);
    }

    private static void streamEndsBelow64() {
        Checks.sentence("and at places below 64.");
        CaptureBench bench = Checks.benchWith("a8c8$*");
        Checks.addFrame(bench, 0, 0, 1, 0, 'f');
        Checks.addFrame(bench, 0, 1, 1, 63, 'l', 'n');
        Checks.addFrame(bench, 0, 2, 1, 64, 'n');
        Checks.addFrame(bench, 0, 3, 1, 65, 'n');
        Checks.addFrame(bench, 0, 4, 1, 255, 'n', 'n', 'n');
        Checks.addFrame(bench, 0, 5, 1, 62, 'k', 'n', 'n');
        bench.talks(0, 0, 0, 0);
        Checks.due("stream", bench.stream(0, 0, 2), 3);
        dueStreamed(bench, 0, 'f', NONE);
        dueStreamed(bench, 61, NONE, 'k', 'l', NONE, NONE);
        // A distance that an int would hold for a small one, or for one below 0.
        bench = Checks.benchWith("b32c8$*");
        Checks.addFrame(bench, 0, 0, 0, 0, 0, 1, 7, 'f');
        Checks.addFrame(bench, 0, 1, 0, 0, 0, 0, 7, 'n', 'n', 'n');
        Checks.addFrame(bench, 0, 2, 128, 0, 0, 2, 7, 'n');
        Checks.addFrame(bench, 0, 3, 127, 255, 255, 255, 7, 'n', 'n', 'n', 'n');
        bench.talks(0, 2, 0, 2);
        Checks.due("stream with far ones", bench.stream(0, 0, 1), 1);
        dueStreamed(bench, 0, 'f', NONE, NONE, NONE);
    }

    private static void streamAnswersHowMany() {
        Checks.sentence("Answers how many bytes there are.");
        CaptureBench bench = Checks.benchWith("a8c8$*");
        int[] longest = new int[40];
        longest[0] = 1;
        Checks.addFrame(bench, 0, 0, longest);
        longest[1] = 38;
        Checks.addFrame(bench, 0, 1, longest);
        Checks.addFrame(bench, 0, 2, 2, 0);
        Checks.addFrame(bench, 0, 3, 3, 0, 'a');
        Checks.addFrame(bench, 0, 4, 3, 40, 'b');
        Checks.due("talks", bench.talks(0, 0, 0, 0), 3);
        Checks.due("all 64 places", bench.stream(0, 0, 2), 64);
        Checks.due("an empty block", bench.stream(1, 0, 2), 0);
        Checks.due("with a gap", bench.stream(2, 0, 2), 2);
        dueStreamed(bench, 39, NONE, 'b', NONE);
        Checks.due("again", bench.stream(2, 0, 2), 2);
    }

    private static void streamRefusesWhatIsNotThere() {
        Checks.sentence("IndexOutOfBoundsException: there is no such talk; "
                + "IllegalArgumentException: layer is not 0 .. 3, or name not 0 .. 7.");
        CaptureBench none = new CaptureBench();
        Checks.dueOutOfBounds("stream(0, 0, 0) of a new object", () -> none.stream(0, 0, 0));
        CaptureBench bench = talking();
        Checks.due("stream(0, 0, 0)", bench.stream(0, 0, 0), 1);
        int[] wrongTalks = {-1, 1, 12, Integer.MIN_VALUE, Integer.MAX_VALUE};
        for (int k : wrongTalks) {
            Checks.dueOutOfBounds("stream(" + k + ", 0, 0)", () -> bench.stream(k, 0, 0));
            Checks.dueOutOfBounds("stream(" + k + ", 4, 8)", () -> bench.stream(k, 4, 8));
        }
        int[] wrongLayers = {-1, 4, Integer.MIN_VALUE, Integer.MAX_VALUE};
        for (int layer : wrongLayers) {
            Checks.dueIllegalArgument("layer " + layer, () -> bench.stream(0, layer, 0));
        }
        int[] wrongNames = {-1, 8, Integer.MIN_VALUE, Integer.MAX_VALUE};
        for (int name : wrongNames) {
            Checks.dueIllegalArgument("name " + name, () -> bench.stream(0, 0, name));
        }
        dueStreamed(bench, 0, 2, NONE);
        Checks.due("stream(0, 3, 7)", bench.stream(0, 3, 7), 0);
    }

    private static void streamedAnswersNone() {
        Checks.sentence("NONE when there is none, or nothing was joined yet.");
        CaptureBench bench = talking();
        int[] places = {Integer.MIN_VALUE, -1, 0, 1, 63, 64, 65, Integer.MAX_VALUE};
        for (int place : places) {
            Checks.due("streamed(" + place + ") before", bench.streamed(place), NONE);
        }
        bench.stream(0, 0, 0);
        for (int place : places) {
            Checks.due("streamed(" + place + ")", bench.streamed(place), place == 0 ? 2 : NONE);
        }
        // What was joined before is gone, even when nothing is joined in its place.
        Checks.due("stream of nothing", bench.stream(0, 1, 0), 0);
        Checks.due("streamed(0) then", bench.streamed(0), NONE);
    }

    private static void streamedStaysWhateverIsDone() {
        Checks.sentence("The byte at a place of what was joined last (whatever was done since)");
        CaptureBench bench = talking();
        Checks.write(bench, 9, 9);
        bench.frame(1, 9);
        bench.talks(0, 0, 0, 0);
        bench.stream(0, 0, 0);
        bench.drop(0);
        dueStreamed(bench, 0, 2, NONE);
        Checks.describe(bench, 0, "a1");
        dueStreamed(bench, 0, 2, NONE);
        bench.root(0, NONE);
        bench.follow(1, 1, 1);
        bench.limit(1);
        dueStreamed(bench, 0, 2, NONE);
        Checks.addFrame(bench, 0, 0, 7, 8);
        Checks.makeFilter(bench, 0, "0a");
        bench.next(0, 0);
        bench.total(0, 0, 0, 0);
        bench.talks(0, 0, 0, 0);
        bench.decode(0);
        dueStreamed(bench, 0, 2, NONE);
        Checks.dueOutOfBounds("stream of no talk", () -> bench.stream(0, 0, 0));
        Checks.dueIllegalArgument("layer(4)", () -> bench.layer(4));
        dueStreamed(bench, 0, 2, NONE);
    }
}
