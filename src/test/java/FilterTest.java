/** Promises 13 to 15: filter, next, total, with the terms on filter texts and first values. */
public final class FilterTest {
    public static void main(String[] args) {
        goodTexts();
        wrongTests();
        wrongNumbers();
        wrongJoints();
        depth();
        wrongTextChangesNothing();
        wrongFilters();
        comparisons();
        anyEntryWillDo();
        marksThatCount();
        blocksAndLayers();
        joints();
        nextGoesOn();
        wrongNexts();
        totals();
        totalsTakeFirstValues();
        wrongTotals();
        filtersLookAtFramesAsTheyAre();
        Checks.end();
    }

    private static void place(String text, int want) {
        Checks.dueFilterPlace(text, want);
    }

    private static void goodTexts() {
        place("0a", -1);
        place("3h", -1);
        place("2$", -1);
        place("0a=1", -1);
        place("0a=1,2,3,4", -1);
        place("0a=000001,999999", -1);
        place("0a<1", -1);
        place("0a>1", -1);
        place("0$~1", -1);
        place("0a|1b&2c", -1);
        place("!0a&!(1b|!2c)", -1);
        place("((0a))", -1);
        place("0a=1,2&0b=3|0c", -1);
        place("0a" + "|0a".repeat(26), -1);
        place("0a" + "&0a".repeat(26), -1);
    }

    private static void wrongTests() {
        place("", 0);
        place("0", 1);
        place("4a", 0);
        place("/a", 0);
        place("a", 0);
        place("$", 0);
        place("0i", 1);
        place("0A", 1);
        place("01", 1);
        place("0*", 1);
        place("0a1", 2);
        place("0ab", 2);
        place("0a!", 2);
        place("0a(", 2);
        place("0$$", 2);
        place(" 0a", 0);
        place("\u00b0a", 0);
    }

    private static void wrongNumbers() {
        place("0a=", 3);
        place("0a<", 3);
        place("0a>", 3);
        place("0a~", 3);
        place("0a==1", 3);
        place("0a<=1", 3);
        place("0a=,1", 3);
        place("0a=1,", 5);
        place("0a=1,,2", 5);
        place("0a=1,a", 5);
        place("0a=1,2,3,4,5", 10);
        place("0a=1,2,3,4,", 10);
        place("0a<1,2", 4);
        place("0a>1,2", 4);
        place("0a~1,2", 4);
        place("0a=1234567", 9);
        place("0a=1,1234567", 11);
        place("0a<1234567", 9);
        place("0a=1=2", 4);
        place("0a=1<2", 4);
        place("0a,1", 2);
    }

    private static void wrongJoints() {
        place("|0a", 0);
        place("&0a", 0);
        place(")", 0);
        place("!", 1);
        place("(", 1);
        place("()", 1);
        place("(0a", 3);
        place("(0a|", 4);
        place("(0a]", 3);
        place("(0a))", 4);
        place("0a)", 2);
        place("0a&", 3);
        place("0a|", 3);
        place("0a||0b", 3);
        place("0a&&0b", 3);
        place("0a|&0b", 3);
        place("0a0b", 2);
        place("(0a)(0b)", 4);
        place("(0a)!0b", 4);
        place("0a&0b|0c x", 8);
        place("!&0a", 1);
        place("!)", 1);
    }

    private static void depth() {
        place("!".repeat(8) + "0a", -1);
        place("!".repeat(9) + "0a", 8);
        place("(".repeat(8) + "0a" + ")".repeat(8), -1);
        place("(".repeat(9) + "0a" + ")".repeat(9), 8);
        place("!(!(!(!(0a))))", -1);
        place("!(!(!(!(!0a))))", 8);
        place("!(!(!(!((0a))))", 8);
        place("!(!(!(!(0a|!0b))))", 11);
        place("!(!(!(!(0a&(0b))))", 11);
        place("!!!!!!!!0a|!!!!!!!!0b&(((((((!0c)))))))", -1);
        place("(((((((0a&!0b|!0c)))))))", -1);
    }

    private static void wrongTextChangesNothing() {
        CaptureBench bench = Checks.benchWith("a8");
        Checks.addFrame(bench, 0, 0, 1);
        Checks.addFrame(bench, 0, 1, 2);
        Checks.makeFilter(bench, 0, "0a=2");
        Checks.write(bench, "0a=1|");
        Checks.due("filter(0) of a wrong text", bench.filter(0), 5);
        Checks.due("the filter stays", bench.next(0, 0), 1);
        Checks.due("filter(1) of a wrong text", bench.filter(1), 5);
        Checks.dueNoSuchElement("no filter came", () -> bench.next(1, 0));
        Checks.due("the draft stays", bench.write(2, 'b' << 8 | '0'), 7);
        bench.talks(0, 0, 0, 0);
        Checks.due("filter(0)", bench.filter(0), -1);
        Checks.due("in place of the other one", bench.next(0, 0), 0);
        Checks.due("a filter leaves the talks", bench.talk(1, 0), 2);
        Checks.makeFilter(bench, 0, "0b");
        Checks.due("a shorter one in its place", bench.next(0, 0), -1);
    }

    private static void wrongFilters() {
        CaptureBench bench = new CaptureBench();
        Checks.write(bench, "0a");
        int[] wrong = {-1, 4, Integer.MIN_VALUE, Integer.MAX_VALUE};
        for (int filter : wrong) {
            Checks.dueIllegalArgument("filter(" + filter + ")", () -> bench.filter(filter));
        }
        Checks.due("the draft stays", bench.wipe(), 2);
        Checks.dueIllegalArgument("filter(4) of a wrong text", () -> bench.filter(4));
        for (int filter = 0; filter < 4; filter++) {
            Checks.makeFilter(bench, filter, "0a");
            Checks.due("next(" + filter + ", 0)", bench.next(filter, 0), -1);
        }
    }

    private static void dueMatch(CaptureBench bench, String text, boolean... frames) {
        Checks.makeFilter(bench, 2, text);
        for (int k = 0; k < frames.length; k++) {
            Checks.due("'" + text + "' of frame " + k, bench.next(2, k) == k ? 1 : 0,
                    frames[k] ? 1 : 0);
        }
    }

    private static void comparisons() {
        CaptureBench bench = Checks.benchWith("a32");
        Checks.addFrame(bench, 0, 0, 0, 0, 0, 4);
        Checks.addFrame(bench, 0, 1, 0, 0, 0, 5);
        Checks.addFrame(bench, 0, 2, 0, 0, 0, 6);
        Checks.addFrame(bench, 0, 3, 0x80, 0, 0, 8);
        dueMatch(bench, "0a", true, true, true, true);
        dueMatch(bench, "0a=5", false, true, false, false);
        dueMatch(bench, "0a=9,6,7,4", true, false, true, false);
        dueMatch(bench, "0a<5", true, false, false, false);
        dueMatch(bench, "0a<0", false, false, false, false);
        dueMatch(bench, "0a>5", false, false, true, true);
        dueMatch(bench, "0a~1", false, true, false, false);
        dueMatch(bench, "0a~3", false, true, true, false);
        dueMatch(bench, "0a~10", false, false, true, true);
        dueMatch(bench, "0a~0", false, false, false, false);
        dueMatch(bench, "0a=8", false, false, false, false);
        dueMatch(bench, "0b", false, false, false, false);
        dueMatch(bench, "1a", false, false, false, false);
        dueMatch(bench, "0$", false, false, false, false);
    }

    private static void anyEntryWillDo() {
        CaptureBench bench = Checks.benchWith("#*(a8)");
        Checks.addFrame(bench, 0, 0, 1, 9, 3);
        Checks.addFrame(bench, 0, 1, 4, 4);
        dueMatch(bench, "0a=3", true, false);
        dueMatch(bench, "0a=9,4", true, true);
        dueMatch(bench, "0a>8", true, false);
        dueMatch(bench, "0a<4", true, false);
        dueMatch(bench, "!0a=4", true, false);
        dueMatch(bench, "0a=1&0a=3", true, false);
    }

    private static void marksThatCount() {
        CaptureBench bench = Checks.benchWith("a8=1b8!c8$c");
        Checks.addFrame(bench, 0, 0, 2);
        Checks.addFrame(bench, 0, 1, 1, 7, 5);
        Checks.addFrame(bench, 0, 2, 1, 1, 0);
        Checks.addFrame(bench, 0, 3, 1, 1);
        dueMatch(bench, "0a=2", true, false, false, false);
        dueMatch(bench, "0b=7", false, true, false, false);
        dueMatch(bench, "0c", false, true, true, false);
        dueMatch(bench, "0c=0", false, false, true, false);
        dueMatch(bench, "0$", false, false, true, false);
        dueMatch(bench, "0$=0", false, false, true, false);
        bench.limit(2);
        dueMatch(bench, "0b", false, false, false, false);
        dueMatch(bench, "0b=0", false, false, false, false);
        dueMatch(bench, "0a", true, true, true, true);
    }

    private static void blocksAndLayers() {
        CaptureBench bench = Checks.benchWith("a8>a");
        Checks.describe(bench, 3, "b8$b$*");
        bench.follow(0, 1, 3);
        Checks.addFrame(bench, 0, 0, 1, 2, 0, 0, 0, 0, 0);
        Checks.addFrame(bench, 0, 1, 0, 2, 0, 0, 0, 0, 0);
        dueMatch(bench, "3b", true, false);
        dueMatch(bench, "0b", false, false);
        dueMatch(bench, "3$=2", true, false);
        dueMatch(bench, "3$=3", true, false);
        dueMatch(bench, "3$=4", false, false);
        dueMatch(bench, "0$", false, false);
    }

    private static void joints() {
        CaptureBench bench = Checks.benchWith("a1b1c1");
        for (int k = 0; k < 8; k++) {
            Checks.addFrame(bench, 0, k, k << 5);
        }
        for (int k = 0; k < 8; k++) {
            boolean a = (k & 4) != 0;
            boolean b = (k & 2) != 0;
            boolean c = (k & 1) != 0;
            dueTruth(bench, "0a~1|0b~1&0c~1", k, a || b && c);
            dueTruth(bench, "0a~1&0b~1|0c~1", k, a && b || c);
            dueTruth(bench, "(0a~1|0b~1)&0c~1", k, (a || b) && c);
            dueTruth(bench, "!0a~1&0b~1", k, !a && b);
            dueTruth(bench, "!(0a~1&0b~1)", k, !(a && b));
            dueTruth(bench, "!0a~1|0b~1", k, !a || b);
            dueTruth(bench, "!!0a~1", k, a);
            dueTruth(bench, "0a~1|0b~1|0c~1", k, a || b || c);
            dueTruth(bench, "0a~1&0b~1&0c~1", k, a && b && c);
            dueTruth(bench, "!(!(0a~1|!0b~1)&!0c~1)", k, a || !b || c);
            dueTruth(bench, "(0a~1)|!(0b~1)", k, a || !b);
        }
    }

    private static void dueTruth(CaptureBench bench, String text, int frame, boolean want) {
        Checks.makeFilter(bench, 0, text);
        Checks.due("'" + text + "' of " + frame, bench.next(0, frame) == frame ? 1 : 0,
                want ? 1 : 0);
    }

    private static void nextGoesOn() {
        CaptureBench bench = Checks.benchWith("a8");
        int[] bytes = {1, 0, 1, 0, 0, 1};
        for (int k = 0; k < bytes.length; k++) {
            Checks.addFrame(bench, 0, k, bytes[k]);
        }
        Checks.makeFilter(bench, 3, "0a=1");
        int[] want = {0, 2, 2, 5, 5, 5, -1, -1};
        for (int k = 0; k < want.length; k++) {
            Checks.due("next(3, " + k + ")", bench.next(3, k), want[k]);
        }
        Checks.due("next(3, 12)", bench.next(3, 12), -1);
        Checks.due("next(3, most)", bench.next(3, Integer.MAX_VALUE), -1);
        Checks.makeFilter(bench, 0, "!0a");
        bench.root(0, -1);
        Checks.due("a frame without entries", bench.next(0, 2), 2);
        Checks.due("the last frame", bench.next(0, 5), 5);
        Checks.due("behind the last frame", bench.next(0, 6), -1);
        bench.drop(3);
        Checks.due("a frame that was dropped", bench.next(0, 5), -1);
    }

    private static void wrongNexts() {
        CaptureBench bench = new CaptureBench();
        Checks.makeFilter(bench, 1, "0a");
        Checks.dueIllegalArgument("next(-1, 0)", () -> bench.next(-1, 0));
        Checks.dueIllegalArgument("next(4, 0)", () -> bench.next(4, 0));
        Checks.dueIllegalArgument("next(1, -1)", () -> bench.next(1, -1));
        Checks.dueIllegalArgument("next(0, -1) of no filter", () -> bench.next(0, -1));
        Checks.dueNoSuchElement("next(0, 0)", () -> bench.next(0, 0));
        Checks.dueNoSuchElement("next(3, 99)", () -> bench.next(3, 99));
    }

    private static void dueTotals(CaptureBench bench, int layer, int name, long... want) {
        for (int what = 0; what < want.length; what++) {
            Checks.due("total(0, " + layer + ", " + name + ", " + what + ")",
                    bench.total(0, layer, name, what), want[what]);
        }
    }

    private static void totals() {
        CaptureBench bench = Checks.benchWith("a8b32$*");
        Checks.makeFilter(bench, 0, "0a=1,2");
        dueTotals(bench, 0, 1, 0, 0, 0, 0);
        Checks.addFrame(bench, 0, 0, 1, 0xFF, 0xFF, 0xFF, 0xFE, 1, 2);
        Checks.addFrame(bench, 0, 1, 3, 0, 0, 0, 1, 1, 2, 3, 4, 5);
        Checks.addFrame(bench, 0, 2, 2, 0xFF, 0xFF, 0xFF, 0xFF);
        Checks.addFrame(bench, 0, 3, 1, 0, 0, 0, 7, 1, 2, 3);
        Checks.addFrame(bench, 0, 4, 1, 0, 0);
        dueTotals(bench, 0, 0, 4, 5, 1, 2);
        dueTotals(bench, 0, 1, 3, 0xFFFFFFFEL + 0xFFFFFFFFL + 7, 7, 0xFFFFFFFFL);
        dueTotals(bench, 0, 8, 3, 5, 0, 3);
        dueTotals(bench, 0, 2, 0, 0, 0, 0);
        dueTotals(bench, 1, 0, 0, 0, 0, 0);
        Checks.makeFilter(bench, 0, "0a=3");
        dueTotals(bench, 0, 8, 1, 5, 5, 5);
    }

    private static void totalsTakeFirstValues() {
        CaptureBench bench = Checks.benchWith("#*(a8=6b8!)");
        Checks.makeFilter(bench, 0, "0a");
        Checks.addFrame(bench, 0, 0, 6, 9, 6, 3);
        Checks.addFrame(bench, 0, 1, 5, 1);
        Checks.addFrame(bench, 0, 2, 6);
        dueTotals(bench, 0, 0, 3, 17, 5, 6);
        dueTotals(bench, 0, 1, 1, 9, 9, 9);
        bench.limit(3);
        dueTotals(bench, 0, 1, 0, 0, 0, 0);
        bench.limit(64);
        Checks.describe(bench, 0, "a8#*(b8$b)");
        bench.drop(0);
        bench.drop(0);
        bench.drop(0);
        Checks.addFrame(bench, 0, 0, 6, 2, 9, 9, 1, 9, 3, 9);
        dueTotals(bench, 0, 8, 1, 2, 2, 2);
        dueTotals(bench, 0, 1, 1, 2, 2, 2);
    }

    private static void wrongTotals() {
        CaptureBench bench = new CaptureBench();
        Checks.makeFilter(bench, 1, "0a");
        Checks.dueIllegalArgument("total(-1, 0, 0, 0)", () -> bench.total(-1, 0, 0, 0));
        Checks.dueIllegalArgument("total(4, 0, 0, 0)", () -> bench.total(4, 0, 0, 0));
        Checks.dueIllegalArgument("total(1, -1, 0, 0)", () -> bench.total(1, -1, 0, 0));
        Checks.dueIllegalArgument("total(1, 4, 0, 0)", () -> bench.total(1, 4, 0, 0));
        Checks.dueIllegalArgument("total(1, 0, -1, 0)", () -> bench.total(1, 0, -1, 0));
        Checks.dueIllegalArgument("total(1, 0, 9, 0)", () -> bench.total(1, 0, 9, 0));
        Checks.dueIllegalArgument("total(1, 0, 0, -1)", () -> bench.total(1, 0, 0, -1));
        Checks.dueIllegalArgument("total(1, 0, 0, 4)", () -> bench.total(1, 0, 0, 4));
        Checks.dueIllegalArgument("total(0, 0, 0, 4)", () -> bench.total(0, 0, 0, 4));
        Checks.dueNoSuchElement("total(0, 0, 0, 0)", () -> bench.total(0, 0, 0, 0));
        Checks.due("total(1, 3, 8, 3)", bench.total(1, 3, 8, 3), 0);
    }

    private static void filtersLookAtFramesAsTheyAre() {
        CaptureBench bench = Checks.benchWith("a8");
        Checks.makeFilter(bench, 0, "0b=5");
        Checks.addFrame(bench, 0, 7, 0x15);
        Checks.due("before", bench.next(0, 0), -1);
        Checks.describe(bench, 0, "a4b4");
        Checks.due("by another layer", bench.next(0, 0), 0);
        Checks.addFrame(bench, 0, 6, 0x16);
        Checks.due("behind another frame", bench.next(0, 0), 1);
        bench.drop(0);
        Checks.due("without it", bench.next(0, 0), 0);
        bench.limit(2);
        Checks.due("by a lower limit", bench.next(0, 0), -1);
    }
}
