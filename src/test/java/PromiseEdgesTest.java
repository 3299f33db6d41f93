/** The edges of promises 1 to 12: a test for each of their sentences that names one. */
public final class PromiseEdgesTest {
    private static final int NONE = Checks.NONE;
    private static final int LEAST = Integer.MIN_VALUE;
    private static final int MOST = Integer.MAX_VALUE;

    public static void main(String[] args) {
        newObjectHasNothing();
        newObjectHas64Steps();
        objectLastsFor512Calls();
        writeTakesTheLowestBytes();
        writeUpTo80();
        writeOf1To8();
        wipeEmptiesTheDraft();
        wipeAnswersTheSize();
        layerReplacesTheText();
        layerKeepsNothingOfOlderTexts();
        layerTellsThePlace();
        layerTellsThePlaceWhateverFollows();
        layerTextsThatEndTooEarly();
        layerRefusesWrongNumbers();
        rootOfEachLink();
        rootRefusesWrongNumbers();
        followByAValue();
        followRefusesWrongNumbers();
        followOfEightValues();
        frameTakesTheDraft();
        frameRefusesWrongNumbers();
        frameRefusesItsState();
        dropMovesTheOthers();
        dropAnswersTheTime();
        dropOfNoSuchFrame();
        limitOf1To64();
        decodeAnswersHowMany();
        decodeOfNoSuchFrame();
        entryTellsFiveThings();
        entryRefusesWhatIsNotThere();
        valueOfAnEntry();
        valueRefusesWhatIsNotThere();
        Checks.end();
    }

    private static void newObjectHasNothing() {
        Checks.sentence("An empty draft, no layers, no roots, no frames, no filters");
        CaptureBench bench = new CaptureBench();
        Checks.due("layer(0) of an empty draft", bench.layer(0), 0);
        Checks.due("filter(0) of an empty draft", bench.filter(0), 0);
        Checks.dueIllegalState("frame(0, 0) of an empty draft", () -> bench.frame(0, 0));
        Checks.due("wipe()", bench.wipe(), 0);
        Checks.dueOutOfBounds("decode(0)", () -> bench.decode(0));
        Checks.dueOutOfBounds("drop(0)", () -> bench.drop(0));
        for (int k = 0; k < 4; k++) {
            int filter = k;
            Checks.dueNoSuchElement("next", () -> bench.next(filter, 0));
            Checks.dueNoSuchElement("total", () -> bench.total(filter, 0, 0, 0));
        }
        Checks.due("the first frame", Checks.addFrame(bench, 0, 0, 1), 0);
        Checks.due("the second frame", Checks.addFrame(bench, 1, 0, 1), 1);
        for (int layer = 0; layer < 4; layer++) {
            bench.root(0, layer);
            Checks.due("no layer " + layer, bench.decode(0), 0);
        }
        bench.root(0, NONE);
        for (int layer = 0; layer < 4; layer++) {
            Checks.describe(bench, layer, "a8");
        }
        Checks.due("no root of link 0", bench.decode(0), 0);
        Checks.due("no root of link 1", bench.decode(1), 0);
        bench.root(0, 0);
        Checks.describe(bench, 0, "a8>a");
        Checks.due("nothing follows", bench.decode(0), 1);
    }

    private static void newObjectHas64Steps() {
        Checks.sentence("the limit is 64 steps.");
        // A layer, a and the repetitions are steps, and the one of c is the 64th or the 65th.
        CaptureBench bench = Checks.decoded("a8#a(?a=0(b8))c8", 61, 5);
        Checks.dueEntries(bench, Checks.row(0, 0, 0, 8, 0, 61), Checks.row(0, 2, 8, 8, 0, 5));
        bench = Checks.decoded("a8#a(?a=0(b8))c8", 62, 5);
        Checks.dueEntries(bench, Checks.row(0, 0, 0, 8, 0, 62), Checks.row(0, 2, 8, 0, 4, 0));
    }

    private static void objectLastsFor512Calls() {
        Checks.sentence("An object is used for at most 512 calls after it has been made; what "
                + "later calls answer is free.");
        CaptureBench bench = new CaptureBench();
        for (int call = 1; call <= 510; call += 2) {
            Checks.due("call " + call, bench.write(1, 'a'), 1);
            Checks.due("call " + (call + 1), bench.wipe(), 1);
        }
        Checks.due("call 511", bench.write(2, '8' << 8 | 'a'), 2);
        Checks.due("call 512", bench.layer(0), NONE);
    }

    private static void writeTakesTheLowestBytes() {
        Checks.sentence("The n lowest bytes of a long, the lowest first, come behind the draft.");
        for (int n = 1; n <= 8; n++) {
            CaptureBench bench = Checks.benchWith("#*(a8)");
            bench.write(1, 0xEE);
            Checks.due("write(" + n + ", ..)", bench.write(n, 0xF1E2D3C4B5A69788L), n + 1);
            bench.frame(0, 0);
            int[] bytes = {0xEE, 0x88, 0x97, 0xA6, 0xB5, 0xC4, 0xD3, 0xE2, 0xF1};
            Checks.due("bytes", bench.decode(0), n + 1);
            for (int k = 0; k <= n; k++) {
                Checks.due("byte " + k, bench.value(0, k), bytes[k]);
            }
        }
    }

    private static void writeUpTo80() {
        Checks.sentence("Answers how many bytes it has then; NONE, adding none, when there would "
                + "be more than 80.");
        for (int n = 1; n <= 8; n++) {
            CaptureBench bench = new CaptureBench();
            int size = 0;
            while (size + 8 <= 80 - n) {
                size += 8;
                Checks.due("write(8, 0)", bench.write(8, 0), size);
            }
            while (size < 80 - n) {
                size++;
                Checks.due("write(1, 0)", bench.write(1, 0), size);
            }
            Checks.due("write(1, 0)", bench.write(1, 0), size + 1);
            Checks.due("one more than 80", bench.write(n, 0), NONE);
            for (int k = size + 2; k <= 80; k++) {
                Checks.due("none was added", bench.write(1, 0), k);
            }
            Checks.due("when full", bench.write(n, 0), NONE);
            Checks.due("wipe()", bench.wipe(), 80);
            Checks.due("behind wipe()", bench.write(n, 0), n);
        }
        // What a refused call brought does not show when others are written in its place.
        CaptureBench bench = new CaptureBench();
        Checks.write(bench, "$*".repeat(38) + "$");
        Checks.due("write(4, ..)", bench.write(4, 0x78787878L), NONE);
        Checks.due("write(3, ..)", bench.write(3, '*' | '$' << 8 | '*' << 16), 80);
        Checks.due("layer(0)", bench.layer(0), NONE);
    }

    private static void writeOf1To8() {
        Checks.sentence("IllegalArgumentException: n is not 1 .. 8.");
        CaptureBench bench = new CaptureBench();
        int[] wrong = {0, 9, -1, -8, 10, 64, 80, 256 + 8, LEAST, LEAST + 1, MOST};
        for (int n : wrong) {
            Checks.dueIllegalArgument("write(" + n + ", 1)", () -> bench.write(n, 1));
        }
        for (int n = 1; n <= 8; n++) {
            Checks.due("write(" + n + ", 1)", bench.write(n, 1), n * (n + 1) / 2);
        }
        bench.wipe();
        for (int k = 0; k < 10; k++) {
            bench.write(8, 0);
        }
        for (int n : wrong) {
            Checks.dueIllegalArgument("write(" + n + ", 1) when full", () -> bench.write(n, 1));
        }
    }

    private static void wipeEmptiesTheDraft() {
        Checks.sentence("The draft is empty then.");
        CaptureBench bench = new CaptureBench();
        Checks.write(bench, "a8");
        bench.wipe();
        Checks.due("layer(0)", bench.layer(0), 0);
        Checks.dueIllegalState("frame(0, 0)", () -> bench.frame(0, 0));
        Checks.due("write(1, 0)", bench.write(1, 0), 1);
    }

    private static void wipeAnswersTheSize() {
        Checks.sentence("Answers how many bytes it had.");
        CaptureBench bench = new CaptureBench();
        Checks.due("of a new object", bench.wipe(), 0);
        for (int size = 1; size <= 80; size += 79) {
            Checks.write(bench, new int[size]);
            Checks.due("wipe()", bench.wipe(), size);
            Checks.due("wipe() again", bench.wipe(), 0);
        }
        Checks.write(bench, "a8");
        bench.layer(0);
        Checks.due("behind layer()", bench.wipe(), 0);
        Checks.write(bench, "0a");
        bench.filter(0);
        Checks.due("behind filter()", bench.wipe(), 0);
        Checks.write(bench, "0a");
        bench.frame(0, 0);
        Checks.due("behind frame()", bench.wipe(), 0);
        Checks.write(bench, "a8)");
        bench.layer(0);
        bench.filter(0);
        Checks.due("behind a text that is none", bench.wipe(), 3);
    }

    private static void layerReplacesTheText() {
        Checks.sentence("The draft becomes the text of a layer, in place of the one that it had "
                + "(what follows it, and whose root it is, stays): NONE, and the draft is empty.");
        CaptureBench bench = Checks.decoded("a8>a", 1, 0x21, 3);
        Checks.describe(bench, 1, "b8");
        bench.follow(0, 1, 1);
        Checks.dueEntries(bench, Checks.row(0, 0, 0, 8, 0, 1), Checks.row(1, 1, 8, 8, 0, 0x21));
        Checks.describe(bench, 0, "c12d4>d");
        Checks.due("the draft is empty", bench.wipe(), 0);
        Checks.dueEntries(bench, Checks.row(0, 2, 0, 12, 0, 0x12), Checks.row(0, 3, 12, 4, 0, 1),
                Checks.row(1, 1, 16, 8, 0, 3));
        // Another layer's text is not touched.
        Checks.describe(bench, 0, "a8>a");
        Checks.describe(bench, 2, "a1");
        Checks.dueEntries(bench, Checks.row(0, 0, 0, 8, 0, 1), Checks.row(1, 1, 8, 8, 0, 0x21));
    }

    private static void layerKeepsNothingOfOlderTexts() {
        Checks.sentence("The draft becomes the text of a layer, in place of the one that it had");
        CaptureBench bench = Checks.decoded("a8", 1, 0x21, 3);
        Checks.describe(bench, 1, "b8");
        bench.follow(0, 0x121, 1);
        // Twice each, since an object may keep the text before the last one for its own use.
        String[] older = {"a16>a", "a16<>a", "a16#*(b8c8)>a", "a16=9$*>a", "a16!?a<9(b8)d1>a"};
        for (String text : older) {
            Checks.describe(bench, 0, text);
            Checks.describe(bench, 0, text);
            Checks.describe(bench, 0, "a16");
            Checks.dueEntries(bench, Checks.row(0, 0, 0, 16, 0, 0x121));
            Checks.describe(bench, 0, "a16");
            Checks.dueEntries(bench, Checks.row(0, 0, 0, 16, 0, 0x121));
        }
        String[] nested = {"?a=0(b1c1d1)e1", "#a(b1c1d1)e1"};
        for (String text : nested) {
            Checks.describe(bench, 0, "a1" + text);
            Checks.describe(bench, 0, "a1" + text);
            Checks.describe(bench, 0, "a1b1c1d1e1");
            Checks.due("the items of a group or option before", bench.decode(0), 5);
        }
    }

    private static void layerTellsThePlace() {
        Checks.sentence("If it is no layer text: the place of the first character that cannot "
                + "stand there, whatever follows (for a WIDTH that is none, and for a NAME that "
                + "may not stand there, that of its first character)");
        Checks.dueLayerPlace("x", 0);
        Checks.dueLayerPlace("a8x", 2);
        Checks.dueLayerPlace("a0", 1);
        Checks.dueLayerPlace("a00", 1);
        Checks.dueLayerPlace("a33", 1);
        Checks.dueLayerPlace("a320", 1);
        Checks.dueLayerPlace("a1234567", 1);
        Checks.dueLayerPlace("a8b99", 3);
        Checks.dueLayerPlace("a8a8", 2);
        Checks.dueLayerPlace("a8$c", 3);
        Checks.dueLayerPlace("a8#c(b8)", 3);
        Checks.dueLayerPlace("a8?c=1(b8)", 3);
        Checks.dueLayerPlace("a8>c", 3);
        Checks.dueLayerPlace("$*".repeat(39) + "a0", 79);
        Checks.dueLayerPlace("$*".repeat(39) + "$x", 79);
    }

    private static void layerTellsThePlaceWhateverFollows() {
        Checks.sentence("the place of the first character that cannot stand there, whatever "
                + "follows");
        String[] wrong = {"x", "a8x", "a8a", "a8$b", "a8#(", "a8#a[", "#*()", "a8?a>", "a8?a=(",
            "a8?a=1b", "a8>b", "a8>ab", "a16<<", "a8<", "a8=!", "a8!!", "a8)", "a8=1234567",
            "#*(#*(#*(#", "a8?a<1(?a<1(?a<1(?", "a0000012"};
        String[] behind = {"", "8", "a8", "(b8)", "=1(b8)", ")", "x", "\u0000", "b0", ">a", "$*)"};
        for (String text : wrong) {
            for (String more : behind) {
                Checks.dueLayerPlace(text + more, text.length() - 1);
            }
        }
        String[] widths = {"a0", "a33", "a000000", "a999999"};
        String[] noDigits = {"", "<", "=1", "!", "b8", "x", ">a", "(", "a0"};
        for (String text : widths) {
            for (String more : noDigits) {
                Checks.dueLayerPlace(text + more, 1);
            }
        }
    }

    private static void layerTextsThatEndTooEarly() {
        Checks.sentence("or the number of characters if it only ends too early.");
        String[] texts = {"", "a", "a8=", "a16<=", "$", "a8$", "#", "#*", "#*(", "#*(a8", "#*(a",
            "a8?", "a8?a", "a8?a=", "a8?a<", "a8?a=1", "a8?a=1(", "a8?a=1(b8", "a8>",
            "#*(#*(#*(a8", "#*(#*(#*(a8)", "#*(#*(#*(a8))"};
        for (String text : texts) {
            Checks.dueLayerPlace(text, text.length());
        }
        Checks.dueLayerPlace("$*".repeat(38) + "a1$", 79);
        Checks.dueLayerPlace("$*".repeat(38) + "#*($", 80);
        Checks.dueLayerPlace("#*(" + "$*".repeat(38) + "$", 80);
    }

    private static void layerRefusesWrongNumbers() {
        Checks.sentence("IllegalArgumentException: layer is not 0 .. 3.");
        CaptureBench bench = new CaptureBench();
        Checks.dueIllegalArgument("layer(4) of an empty draft", () -> bench.layer(4));
        Checks.write(bench, "a8");
        int[] wrong = {-1, 4, 5, 80, LEAST, MOST};
        for (int layer : wrong) {
            Checks.dueIllegalArgument("layer(" + layer + ")", () -> bench.layer(layer));
        }
        Checks.due("layer(3)", bench.layer(3), NONE);
        Checks.describe(bench, 0, "a8");
    }

    private static void rootOfEachLink() {
        Checks.sentence("The root of a link becomes a layer, described or not; NONE for none (then "
                + "nothing is decoded).");
        CaptureBench bench = new CaptureBench();
        Checks.addFrame(bench, 0, 0, 1);
        Checks.addFrame(bench, 1, 1, 2);
        for (int layer = 3; layer >= 0; layer--) {
            bench.root(0, layer);
            Checks.due("not described", bench.decode(0), 0);
            Checks.describe(bench, layer, "a8");
            Checks.due("described afterwards", bench.decode(0), 1);
            Checks.due("its layer", bench.entry(0, 0, 0), layer);
            Checks.due("the other link", bench.decode(1), 0);
        }
        bench.root(1, 3);
        bench.root(0, NONE);
        Checks.due("none", bench.decode(0), 0);
        Checks.due("the other link", bench.entry(1, 0, 0), 3);
        bench.root(0, NONE);
        Checks.due("none again", bench.decode(0), 0);
    }

    private static void rootRefusesWrongNumbers() {
        Checks.sentence("IllegalArgumentException: link is not 0 or 1, or layer not -1 .. 3.");
        CaptureBench bench = Checks.decoded("a8", 1);
        int[] wrongLinks = {-1, 2, LEAST, MOST};
        for (int link : wrongLinks) {
            Checks.dueIllegalArgument("root(" + link + ", 0)", () -> bench.root(link, 0));
            Checks.dueIllegalArgument("root(" + link + ", -1)", () -> bench.root(link, -1));
        }
        int[] wrongLayers = {-2, 4, LEAST, MOST};
        for (int layer : wrongLayers) {
            Checks.dueIllegalArgument("root(0, " + layer + ")", () -> bench.root(0, layer));
            Checks.dueIllegalArgument("root(1, " + layer + ")", () -> bench.root(1, layer));
        }
        Checks.due("the root stays", bench.decode(0), 1);
        for (int layer = -1; layer < 4; layer++) {
            bench.root(0, layer);
            bench.root(1, layer);
        }
    }

    private static void followByAValue() {
        Checks.sentence("By a value, another layer, or the same, follows a layer; NONE for none "
                + "any more.");
        CaptureBench bench = Checks.decoded("a32>a", 0, 0, 0, 0, 0x7F, 255, 255, 255, 9);
        Checks.describe(bench, 3, "b8");
        bench.follow(0, 0, 0);
        Checks.due("the same by 0", bench.decode(0), 2);
        bench.follow(0, MOST, 3);
        Checks.due("another by the greatest value", bench.entry(0, 2, 0), 3);
        bench.follow(0, MOST, 0);
        Checks.due("the same in its place", bench.entry(0, 2, 0), 0);
        bench.follow(0, MOST, NONE);
        Checks.due("none any more", bench.decode(0), 2);
        bench.follow(0, MOST, NONE);
        Checks.due("none again", bench.decode(0), 2);
        bench.follow(0, 0, NONE);
        Checks.due("none at all", bench.decode(0), 1);
        bench.follow(0, 0, 2);
        Checks.due("a layer that is not described", bench.decode(0), 1);
        Checks.describe(bench, 2, "c8");
        Checks.due("described afterwards", bench.entry(0, 1, 0), 2);
    }

    private static void followRefusesWrongNumbers() {
        Checks.sentence("IllegalArgumentException: layer is not 0 .. 3, value below 0, or next not "
                + "-1 .. 3.");
        CaptureBench bench = Checks.decoded("a8>a", 0, 1);
        Checks.describe(bench, 1, "b8");
        bench.follow(0, 0, 1);
        int[] wrongLayers = {-1, 4, LEAST, MOST};
        for (int layer : wrongLayers) {
            Checks.dueIllegalArgument("layer " + layer, () -> bench.follow(layer, 0, 0));
            Checks.dueIllegalArgument("layer " + layer, () -> bench.follow(layer, 0, -1));
        }
        int[] wrongValues = {-1, LEAST};
        for (int value : wrongValues) {
            Checks.dueIllegalArgument("value " + value, () -> bench.follow(0, value, 0));
            Checks.dueIllegalArgument("value " + value, () -> bench.follow(0, value, -1));
        }
        int[] wrongNexts = {-2, 4, LEAST, MOST};
        for (int next : wrongNexts) {
            Checks.dueIllegalArgument("next " + next, () -> bench.follow(0, 0, next));
        }
        Checks.due("the follower stays", bench.decode(0), 2);
        for (int layer = 0; layer < 4; layer++) {
            for (int next = -1; next < 4; next++) {
                bench.follow(layer, layer, next);
            }
        }
    }

    private static void followOfEightValues() {
        Checks.sentence("IllegalStateException: 8 values of this layer are followed, and this "
                + "would be another one.");
        CaptureBench bench = Checks.benchWith("a8>a");
        Checks.describe(bench, 1, "b8");
        for (int value = 0; value < 8; value++) {
            bench.follow(0, 10 * value, 1);
        }
        Checks.dueIllegalState("a ninth value", () -> bench.follow(0, 1, 1));
        Checks.dueIllegalState("the greatest value", () -> bench.follow(0, MOST, 0));
        // Not another one: a value that is followed, one that is to be followed no more.
        bench.follow(0, 0, 2);
        bench.follow(0, 70, 3);
        bench.follow(0, 70, 1);
        bench.follow(0, 1, NONE);
        Checks.dueIllegalState("still eight", () -> bench.follow(0, 1, 1));
        // Those of another layer are counted apart.
        for (int value = 0; value < 8; value++) {
            bench.follow(3, value, 1);
        }
        Checks.dueIllegalState("a ninth value of layer 3", () -> bench.follow(3, 8, 1));
        // One less makes room for one, wherever it stood.
        int[] gone = {30, 0, 70};
        for (int value : gone) {
            bench.follow(0, value, NONE);
            bench.follow(0, value, NONE);
            bench.follow(0, value + 1, 1);
            Checks.dueIllegalState("eight again", () -> bench.follow(0, value, 1));
        }
        int[] followed = {1, 10, 20, 31, 40, 50, 60, 71};
        for (int k = 0; k < 8; k++) {
            Checks.addFrame(bench, 0, k, followed[k], 5);
            Checks.due("followed by " + followed[k], bench.decode(k), 2);
        }
        for (int k = 0; k < gone.length; k++) {
            Checks.addFrame(bench, 0, 8 + k, gone[k], 5);
            Checks.due("not followed by " + gone[k], bench.decode(8 + k), 1);
        }
    }

    private static void frameTakesTheDraft() {
        Checks.sentence("The draft becomes the bytes of a new frame, and is empty: the frame's "
                + "number.");
        CaptureBench bench = Checks.benchWith("$*");
        bench.root(1, 0);
        Checks.due("the first", Checks.addFrame(bench, 0, 5, new int[40]), 0);
        Checks.due("the draft is empty", bench.wipe(), 0);
        Checks.due("an earlier one", Checks.addFrame(bench, 1, 4, 1), 0);
        Checks.due("one of the same time", Checks.addFrame(bench, 0, 5, 1, 2), 2);
        Checks.due("the greatest time", Checks.addFrame(bench, 1, MOST, 1, 2, 3), 3);
        Checks.due("the least time", Checks.addFrame(bench, 1, 0, 1, 2, 3, 4), 0);
        int[] sizes = {4, 1, 40, 2, 3};
        for (int k = 0; k < sizes.length; k++) {
            Checks.dueEntriesOf(bench, k, Checks.row(0, 8, 0, 8 * sizes[k], 0, sizes[k]));
        }
    }

    private static void frameRefusesWrongNumbers() {
        Checks.sentence("IllegalArgumentException: link is not 0 or 1, or time is below 0.");
        CaptureBench bench = new CaptureBench();
        bench.write(1, 1);
        int[] wrongLinks = {-1, 2, LEAST, MOST};
        for (int link : wrongLinks) {
            Checks.dueIllegalArgument("frame(" + link + ", 0)", () -> bench.frame(link, 0));
        }
        int[] wrongTimes = {-1, LEAST};
        for (int time : wrongTimes) {
            Checks.dueIllegalArgument("frame(0, " + time + ")", () -> bench.frame(0, time));
        }
        Checks.dueOutOfBounds("no frame came", () -> bench.decode(0));
        Checks.due("frame(1, 0)", bench.frame(1, 0), 0);
    }

    private static void frameRefusesItsState() {
        Checks.sentence("IllegalStateException: there are 12 frames, or the draft has no byte, or "
                + "more than 40.");
        CaptureBench bench = Checks.benchWith("$*");
        Checks.dueIllegalState("no byte", () -> bench.frame(0, 0));
        for (int size = 39; size <= 40; size++) {
            Checks.addFrame(bench, 0, size, new int[size]);
            Checks.due("of " + size + " bytes", bench.value(size - 39, 0), size);
        }
        int[] wrong = {41, 42, 79, 80};
        for (int size : wrong) {
            Checks.write(bench, new int[size]);
            Checks.dueIllegalState(size + " bytes", () -> bench.frame(0, 0));
            Checks.due("the draft stays", bench.wipe(), size);
        }
        for (int k = 2; k < 12; k++) {
            Checks.addFrame(bench, 1, 0, 1);
        }
        bench.write(1, 1);
        Checks.dueIllegalState("a thirteenth", () -> bench.frame(0, 0));
        Checks.dueIllegalState("a thirteenth at the end", () -> bench.frame(0, MOST));
        bench.drop(0);
        Checks.due("the draft stayed, and there is room", bench.frame(0, 0), 9);
    }

    private static void dropMovesTheOthers() {
        Checks.sentence("A frame goes; those behind it have numbers that are one less.");
        for (int gone = 0; gone < 12; gone++) {
            CaptureBench bench = Checks.benchWith("a8");
            for (int k = 0; k < 12; k++) {
                Checks.addFrame(bench, 0, k, k);
            }
            // The frame behind is decoded before and after, so that nothing of it may be kept.
            Checks.due("value before", bench.value(gone, 0), gone);
            Checks.due("drop(" + gone + ")", bench.drop(gone), gone);
            for (int k = 0; k < 11; k++) {
                Checks.due("value(" + k + ", 0)", bench.value(k, 0), k < gone ? k : k + 1);
            }
            Checks.dueOutOfBounds("decode(11)", () -> bench.decode(11));
            Checks.due("another one in its place", Checks.addFrame(bench, 0, gone, 99), gone);
            Checks.due("value of the other one", bench.value(gone, 0), 99);
            Checks.due("value of the last one", bench.value(11, 0), gone == 11 ? 99 : 11);
        }
    }

    private static void dropAnswersTheTime() {
        Checks.sentence("Answers its time.");
        CaptureBench bench = new CaptureBench();
        int[] times = {MOST, 0, 7, 7, 1};
        for (int time : times) {
            Checks.addFrame(bench, 0, time, 1);
        }
        Checks.due("drop(4)", bench.drop(4), MOST);
        Checks.due("drop(0)", bench.drop(0), 0);
        Checks.due("drop(1)", bench.drop(1), 7);
        Checks.due("drop(1)", bench.drop(1), 7);
        Checks.due("drop(0)", bench.drop(0), 1);
    }

    private static void dropOfNoSuchFrame() {
        Checks.sentence("IndexOutOfBoundsException here and below: there is no such frame.");
        CaptureBench bench = new CaptureBench();
        Checks.dueOutOfBounds("drop(0) without frames", () -> bench.drop(0));
        Checks.addFrame(bench, 0, 3, 1);
        int[] wrong = {-1, 1, 11, 12, LEAST, MOST};
        for (int frame : wrong) {
            Checks.dueOutOfBounds("drop(" + frame + ")", () -> bench.drop(frame));
        }
        Checks.due("drop(0)", bench.drop(0), 3);
        Checks.dueOutOfBounds("drop(0) again", () -> bench.drop(0));
    }

    private static void limitOf1To64() {
        Checks.sentence("The limit of steps. IllegalArgumentException: n is not 1 .. 64.");
        CaptureBench bench = Checks.decoded("#*(a1)", 0, 0, 0, 0, 0);
        int[] wrong = {0, 65, -1, LEAST, MOST};
        for (int n : wrong) {
            Checks.dueIllegalArgument("limit(" + n + ")", () -> bench.limit(n));
        }
        Checks.due("the limit stays", bench.decode(0), 32);
        // Each repetition and its field are two steps behind the one of the layer.
        for (int n = 1; n <= 64; n++) {
            bench.limit(n);
            int made = (n - 1) / 2;
            Checks.due("limit(" + n + ")", bench.decode(0), made + 1);
            Checks.due("the name of the step", bench.entry(0, made, 1), n % 2 == 1 ? 9 : 0);
            Checks.due("its mark", bench.entry(0, made, 4), 4);
        }
    }

    private static void decodeAnswersHowMany() {
        Checks.sentence("How many entries a frame has.");
        CaptureBench bench = new CaptureBench();
        Checks.addFrame(bench, 0, 0, 5, 1);
        Checks.due("without a root", bench.decode(0), 0);
        Checks.describe(bench, 1, "a8?a=9(b8)");
        bench.root(0, 1);
        Checks.due("one", bench.decode(0), 1);
        // Of 64 steps two begin layers and enter nothing; the 65th is entered.
        Checks.describe(bench, 0, "a8" + "$*".repeat(37) + ">a");
        Checks.describe(bench, 1, "$*".repeat(40));
        bench.root(0, 0);
        bench.follow(0, 5, 1);
        Checks.due("the most", bench.decode(0), 63);
        Checks.due("the mark of the last", bench.entry(0, 62, 4), 4);
        Checks.due("the mark before it", bench.entry(0, 61, 4), 0);
    }

    private static void decodeOfNoSuchFrame() {
        Checks.sentence("IndexOutOfBoundsException here and below: there is no such frame.");
        CaptureBench bench = new CaptureBench();
        Checks.dueOutOfBounds("decode(0) without frames", () -> bench.decode(0));
        Checks.addFrame(bench, 0, 0, 1);
        int[] wrong = {-1, 1, 11, 12, LEAST, MOST};
        for (int frame : wrong) {
            Checks.dueOutOfBounds("decode(" + frame + ")", () -> bench.decode(frame));
            Checks.dueOutOfBounds("entry", () -> bench.entry(frame, 0, 0));
            Checks.dueOutOfBounds("value", () -> bench.value(frame, 0));
        }
        Checks.due("decode(0)", bench.decode(0), 0);
    }

    private static void entryTellsFiveThings() {
        Checks.sentence("Of an entry: the layer (what = 0), the name (1), the first bit (2), the "
                + "bits (3), the mark (4).");
        CaptureBench bench = Checks.decoded("a8>a", 3, 0xFF, 0xFF, 0xFF);
        bench.follow(0, 3, 2);
        String[] texts = {"b3h20=5", "b3h22=5"};
        int[][] want = {{2, 7, 11, 20, 2}, {2, 7, 11, 0, 1}};
        for (int k = 0; k < texts.length; k++) {
            Checks.describe(bench, 2, texts[k]);
            for (int what = 0; what < 5; what++) {
                Checks.due(texts[k] + ": " + what, bench.entry(0, 2, what), want[k][what]);
            }
        }
    }

    private static void entryRefusesWhatIsNotThere() {
        Checks.sentence("IndexOutOfBoundsException: there is no such entry, either; "
                + "IllegalArgumentException: another what.");
        CaptureBench bench = Checks.decoded("a8b8", 1, 2);
        Checks.addFrame(bench, 1, 1, 1);
        int[] wrongEntries = {-1, 2, 63, 64, 65, LEAST, MOST};
        for (int k : wrongEntries) {
            Checks.dueOutOfBounds("entry(0, " + k + ", 0)", () -> bench.entry(0, k, 0));
            Checks.dueOutOfBounds("entry(0, " + k + ", 5)", () -> bench.entry(0, k, 5));
        }
        Checks.dueOutOfBounds("of a frame without entries", () -> bench.entry(1, 0, 0));
        int[] wrongWhats = {-1, 5, LEAST, MOST};
        for (int what : wrongWhats) {
            Checks.dueIllegalArgument("what " + what, () -> bench.entry(0, 0, what));
            Checks.dueIllegalArgument("what " + what, () -> bench.entry(0, 1, what));
            Checks.dueOutOfBounds("no frame, what " + what, () -> bench.entry(2, 0, what));
        }
    }

    private static void valueOfAnEntry() {
        Checks.sentence("The value of an entry.");
        CaptureBench bench = Checks.decoded("a32b1$*", 255, 255, 255, 255, 0, 0);
        Checks.due("of the widest field", bench.value(0, 0), 0xFFFFFFFFL);
        Checks.due("of a field", bench.value(0, 1), 0);
        Checks.due("of a block", bench.value(0, 2), 1);
    }

    private static void valueRefusesWhatIsNotThere() {
        Checks.sentence("The value of an entry. IndexOutOfBoundsException: there is no such entry, "
                + "either.");
        CaptureBench bench = Checks.decoded("a8b8", 1, 2);
        Checks.addFrame(bench, 1, 1, 1);
        int[] wrong = {-1, 2, 63, 64, 65, LEAST, MOST};
        for (int k : wrong) {
            Checks.dueOutOfBounds("value(0, " + k + ")", () -> bench.value(0, k));
        }
        Checks.dueOutOfBounds("of a frame without entries", () -> bench.value(1, 0));
        // An entry that there was before a call is gone behind it.
        Checks.due("value(0, 1)", bench.value(0, 1), 2);
        Checks.describe(bench, 0, "a8");
        Checks.dueOutOfBounds("value(0, 1) of another text", () -> bench.value(0, 1));
    }
}
