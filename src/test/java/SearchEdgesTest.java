/** The edges of promises 13 to 15: a test for each of their sentences that names one. */
public final class SearchEdgesTest {
    private static final int NONE = Checks.NONE;
    private static final int LEAST = Integer.MIN_VALUE;
    private static final int MOST = Integer.MAX_VALUE;

    public static void main(String[] args) {
        filterReplaces();
        filterTellsThePlace();
        filterRefusesWrongNumbers();
        nextFromAFrameOn();
        nextRefusesWrongNumbers();
        nextOfNoSuchFilter();
        totalsOfFirstValues();
        totalsOfTheWidestValues();
        totalRefusesWrongNumbers();
        totalOfNoSuchFilter();
        Checks.end();
    }

    private static void filterReplaces() {
        Checks.sentence("The draft becomes a filter, in place of the one that there was: NONE, and "
                + "the draft is empty; or a place, as with layer().");
        CaptureBench bench = Checks.benchWith("a8");
        Checks.addFrame(bench, 0, 0, 1);
        Checks.addFrame(bench, 0, 1, 2);
        Checks.makeFilter(bench, 0, "0a=2|0a=9|0a=8");
        Checks.due("the draft is empty", bench.wipe(), 0);
        Checks.due("next(0, 0)", bench.next(0, 0), 1);
        Checks.makeFilter(bench, 1, "0a=2");
        Checks.makeFilter(bench, 0, "0a=1");
        Checks.due("a shorter one in its place", bench.next(0, 0), 0);
        Checks.due("nothing of the longer one", bench.next(0, 1), NONE);
        Checks.due("another filter stays", bench.next(1, 0), 1);
        Checks.write(bench, "0a=2|");
        Checks.due("filter(0) of a wrong text", bench.filter(0), 5);
        Checks.due("the filter stays", bench.next(0, 0), 0);
        Checks.due("filter(2) of a wrong text", bench.filter(2), 5);
        Checks.dueNoSuchElement("no filter came", () -> bench.next(2, 0));
        Checks.due("the draft stays", bench.wipe(), 5);
    }

    private static void filterTellsThePlace() {
        Checks.sentence("or a place, as with layer().");
        String[] wrong = {"x", "4", "|", "0x", "00", "0a0", "0a)", "0a(", "0a!", "0a==", "0a=,",
            "0a=1,,", "0a=1,2,3,4,", "0a<1,", "0a=1234567", "0a||", "0a&|", "!)", "()", "(0a(",
            "!!!!!!!!!", "(((((((((", "!(!(!(!(!"};
        String[] behind = {"", "0a", "a", ")", "1", "|0b", "\u0000", "x"};
        for (String text : wrong) {
            for (String more : behind) {
                Checks.dueFilterPlace(text + more, text.length() - 1);
            }
        }
        String[] early = {"", "0", "!", "(", "0a=", "0a<", "0a>", "0a~", "0a=1,", "0a=1,2,3,",
            "0a|", "0a&", "(0a", "(0a|0b", "((0a)", "!!!!!!!!", "(((((((("};
        for (String text : early) {
            Checks.dueFilterPlace(text, text.length());
        }
        Checks.dueFilterPlace("0a" + "|0a".repeat(25) + "|0", 79);
        Checks.dueFilterPlace("0a=1" + "|0a".repeat(25) + "|", 80);
        Checks.dueFilterPlace("0a=1" + "|0a".repeat(25) + "x", 79);
    }

    private static void filterRefusesWrongNumbers() {
        Checks.sentence("IllegalArgumentException: filter is not 0 .. 3.");
        CaptureBench bench = new CaptureBench();
        Checks.dueIllegalArgument("filter(4) of an empty draft", () -> bench.filter(4));
        Checks.write(bench, "0a");
        int[] wrong = {-1, 4, 5, LEAST, MOST};
        for (int filter : wrong) {
            Checks.dueIllegalArgument("filter(" + filter + ")", () -> bench.filter(filter));
        }
        Checks.due("filter(3)", bench.filter(3), NONE);
        Checks.makeFilter(bench, 0, "0a");
    }

    private static void nextFromAFrameOn() {
        Checks.sentence("The least frame, from one on, that a filter matches; NONE when there is "
                + "none (also when there is no frame from that on).");
        CaptureBench bench = Checks.benchWith("a8");
        Checks.makeFilter(bench, 0, "0a=1");
        Checks.makeFilter(bench, 3, "!0a=1");
        Checks.due("without frames", bench.next(0, 0), NONE);
        Checks.due("without frames, whatever is asked", bench.next(3, 0), NONE);
        for (int k = 0; k < 12; k++) {
            Checks.addFrame(bench, 0, k, k == 3 || k == 11 ? 1 : 0);
        }
        for (int k = 0; k < 14; k++) {
            Checks.due("next(0, " + k + ")", bench.next(0, k), k <= 3 ? 3 : k <= 11 ? 11 : NONE);
            int other = k == 3 ? 4 : k >= 11 ? NONE : k;
            Checks.due("next(3, " + k + ")", bench.next(3, k), other);
        }
        Checks.due("from the greatest on", bench.next(3, MOST), NONE);
        Checks.makeFilter(bench, 0, "0a=2");
        Checks.due("a filter that matches none", bench.next(0, 0), NONE);
        bench.drop(11);
        Checks.due("from a frame on that went", bench.next(3, 11), NONE);
    }

    private static void nextRefusesWrongNumbers() {
        Checks.sentence("IllegalArgumentException: filter is not 0 .. 3, or frame below 0.");
        CaptureBench bench = new CaptureBench();
        Checks.makeFilter(bench, 0, "0a");
        Checks.makeFilter(bench, 3, "0a");
        int[] wrong = {-1, 4, LEAST, MOST};
        for (int filter : wrong) {
            Checks.dueIllegalArgument("next(" + filter + ", 0)", () -> bench.next(filter, 0));
        }
        int[] below = {-1, LEAST};
        for (int frame : below) {
            Checks.dueIllegalArgument("next(0, " + frame + ")", () -> bench.next(0, frame));
            Checks.dueIllegalArgument("next(1, " + frame + ")", () -> bench.next(1, frame));
        }
        Checks.due("next(0, 0)", bench.next(0, 0), NONE);
        Checks.due("next(3, 0)", bench.next(3, 0), NONE);
    }

    private static void nextOfNoSuchFilter() {
        Checks.sentence("IllegalArgumentException: filter is not 0 .. 3, or frame below 0. "
                + "NoSuchElementException: there is no such filter.");
        CaptureBench bench = Checks.decoded("a8", 1);
        Checks.makeFilter(bench, 2, "0a");
        int[] missing = {0, 1, 3};
        for (int filter : missing) {
            Checks.dueNoSuchElement("next(" + filter + ", 0)", () -> bench.next(filter, 0));
            Checks.dueNoSuchElement("next(" + filter + ", most)", () -> bench.next(filter, MOST));
        }
        Checks.due("next(2, 0)", bench.next(2, 0), 0);
    }

    private static void dueTotals(CaptureBench bench, int layer, int name, long... want) {
        for (int what = 0; what < 4; what++) {
            Checks.due("total(0, " + layer + ", " + name + ", " + what + ")",
                    bench.total(0, layer, name, what), want[what]);
        }
    }

    private static void totalsOfFirstValues() {
        Checks.sentence("Of the first values of a layer's name in all frames that a filter "
                + "matches: how many they are (what = 0), their sum (1), the least (2), the "
                + "greatest (3; both 0 without any).");
        CaptureBench bench = Checks.benchWith("a8?a<9(b8)$*");
        Checks.makeFilter(bench, 0, "0a>0");
        dueTotals(bench, 0, 0, 0, 0, 0, 0);
        // Not matched; no b; matched with b, the least and the greatest in the middle.
        int[][] frames = {{0, 1}, {9, 2}, {1, 5, 0}, {1, 3}, {1, 8, 0, 0}, {1, 4, 0}};
        for (int k = 0; k < frames.length; k++) {
            Checks.addFrame(bench, 0, k, frames[k]);
        }
        dueTotals(bench, 0, 0, 5, 13, 1, 9);
        dueTotals(bench, 0, 1, 4, 20, 3, 8);
        dueTotals(bench, 0, 8, 5, 5, 0, 2);
        dueTotals(bench, 0, 7, 0, 0, 0, 0);
        dueTotals(bench, 3, 0, 0, 0, 0, 0);
        Checks.makeFilter(bench, 0, "0a=7");
        dueTotals(bench, 0, 0, 0, 0, 0, 0);
        Checks.makeFilter(bench, 0, "0b=3");
        dueTotals(bench, 0, 1, 1, 3, 3, 3);
        // A frame may be matched that has no such value, by a filter for what it lacks.
        Checks.makeFilter(bench, 0, "!0b");
        dueTotals(bench, 0, 1, 0, 0, 0, 0);
        dueTotals(bench, 0, 0, 1, 9, 9, 9);
    }

    private static void totalsOfTheWidestValues() {
        Checks.sentence("how many they are (what = 0), their sum (1), the least (2), the greatest "
                + "(3; both 0 without any).");
        CaptureBench bench = Checks.benchWith("h32");
        for (int k = 0; k < 12; k++) {
            Checks.addFrame(bench, 0, k, 255, 255, 255, k == 0 ? 254 : 255);
        }
        Checks.makeFilter(bench, 0, "0h");
        dueTotals(bench, 0, 7, 12, 12 * 0xFFFFFFFFL - 1, 0xFFFFFFFEL, 0xFFFFFFFFL);
    }

    private static void totalRefusesWrongNumbers() {
        Checks.sentence("name is 0 .. 8. IllegalArgumentException: filter or layer is not 0 .. 3, "
                + "name not 0 .. 8, or what not 0 .. 3.");
        CaptureBench bench = new CaptureBench();
        Checks.makeFilter(bench, 0, "0a");
        Checks.makeFilter(bench, 3, "0a");
        int[] wrong = {-1, 4, LEAST, MOST};
        for (int number : wrong) {
            Checks.dueIllegalArgument("filter " + number, () -> bench.total(number, 0, 0, 0));
            Checks.dueIllegalArgument("layer " + number, () -> bench.total(0, number, 0, 0));
            Checks.dueIllegalArgument("what " + number, () -> bench.total(0, 0, 0, number));
        }
        int[] wrongNames = {-1, 9, 10, LEAST, MOST};
        for (int name : wrongNames) {
            Checks.dueIllegalArgument("name " + name, () -> bench.total(0, 0, name, 0));
        }
        for (int name = 0; name <= 8; name++) {
            Checks.due("name " + name, bench.total(3, 3, name, 3), 0);
            Checks.due("name " + name, bench.total(0, 0, name, 0), 0);
        }
    }

    private static void totalOfNoSuchFilter() {
        Checks.sentence("name not 0 .. 8, or what not 0 .. 3. NoSuchElementException: there is no "
                + "such filter.");
        CaptureBench bench = new CaptureBench();
        Checks.makeFilter(bench, 1, "0a");
        int[] missing = {0, 2, 3};
        for (int filter : missing) {
            Checks.dueNoSuchElement("total", () -> bench.total(filter, 0, 0, 0));
            Checks.dueIllegalArgument("layer 4", () -> bench.total(filter, 4, 0, 0));
            Checks.dueIllegalArgument("name 9", () -> bench.total(filter, 0, 9, 0));
            Checks.dueIllegalArgument("what 4", () -> bench.total(filter, 0, 0, 4));
        }
        Checks.due("total(1, 0, 0, 0)", bench.total(1, 0, 0, 0), 0);
    }
}
