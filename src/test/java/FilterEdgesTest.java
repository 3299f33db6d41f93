/** The edges of filters: a test for each sentence of the terms on filter texts that names one. */
public final class FilterEdgesTest {
    private static final int NONE = Checks.NONE;
    private static final int BLOCK = 8;

    public static void main(String[] args) {
        filterIsTermsWithBars();
        termIsFactorsWithAnds();
        factorIsOneOfThree();
        eightDeepAndNoNinth();
        testBeginsWithALayerAndName();
        testHasOneComparisonAtMost();
        oneToFourNumbers();
        numbersHaveOneToSixDigits();
        testsAtTheirNumber();
        testsOfTheWidestValues();
        testsWithoutComparison();
        testsLookAtOneLayerAndName();
        testsPassOverMarks1And4();
        barsAndAndsAndNots();
        filtersHaveNumbers0To3();
        firstValueIsTheFirst();
        firstValuePassesOverMarks1And4();
        Checks.end();
    }

    private static void place(String text, int want) {
        Checks.dueFilterPlace(text, want);
    }

    private static void good(String text) {
        place(text, NONE);
    }

    /** Which of a bench's frames a filter text matches, a digit for each, the first one first. */
    private static void dueMatches(CaptureBench bench, String text, String want) {
        Checks.makeFilter(bench, 0, text);
        for (int k = 0; k < want.length(); k++) {
            Checks.due("'" + text + "' for frame " + k, bench.next(0, k) == k ? 1 : 0,
                    want.charAt(k) - '0');
        }
    }

    private static void filterIsTermsWithBars() {
        Checks.sentence("FILTER: TERMs with | between them.");
        good("0a");
        good("0a|0b");
        good("0a" + "|0a".repeat(26));
        place("", 0);
        place("|", 0);
        place("|0a", 0);
        place("0a|", 3);
        place("0a||0b", 3);
        place("0a|0b|", 6);
        place("0a0b", 2);
        place("0a 0b", 2);
        place("0a|)", 3);
        place("0a" + "|0a".repeat(25) + "|0", 79);
        place("0a=00" + "|0a".repeat(25), NONE);
        place("0a=0" + "|0a".repeat(25) + "|", 80);
        // Each character that can stand behind a whole test, and all that cannot.
        for (int c = 0; c < 256; c++) {
            boolean joins = "|&=<>~".indexOf(c) >= 0;
            place("0a" + (char) c, joins ? 3 : 2);
            place("(0a" + (char) c, c == ')' ? NONE : joins ? 4 : 3);
        }
    }

    private static void termIsFactorsWithAnds() {
        Checks.sentence("TERM: FACTORs with & between them.");
        good("0a&0b");
        good("0a&0b|0c&0d");
        good("0a" + "&0a".repeat(26));
        place("&", 0);
        place("&0a", 0);
        place("0a&", 3);
        place("0a&&0b", 3);
        place("0a&|0b", 3);
        place("0a|&0b", 3);
        place("0a&0b&", 6);
        place("0a&)", 3);
    }

    private static void factorIsOneOfThree() {
        Checks.sentence("FACTOR: ! FACTOR, ( FILTER ), or a TEST");
        good("!0a");
        good("(0a)");
        good("(0a|0b&!0c)");
        good("!(0a)");
        good("(!0a)");
        place("!", 1);
        place("!|", 1);
        place("!&0a", 1);
        place("!)", 1);
        place("(", 1);
        place("()", 1);
        place("(|0a)", 1);
        place("(0a", 3);
        place("(0a|", 4);
        place("(0a))", 4);
        place(")", 0);
        place("0a)", 2);
        place("0a!", 2);
        place("0a(", 2);
        place("(0a)(0b)", 4);
        place("(0a)!0b", 4);
        place("(0a)0b", 4);
        place("(0a)=1", 4);
        for (int c = 0; c < 256; c++) {
            boolean opens = c == '!' || c == '(' || c >= '0' && c <= '3';
            place("" + (char) c, opens ? 1 : 0);
            place("!" + (char) c, opens ? 2 : 1);
            place("(" + (char) c, opens ? 2 : 1);
            place("0a&" + (char) c, opens ? 4 : 3);
        }
    }

    /** A text that opens as many ! and ( as told, by the bits of a number, without closing any. */
    private static String opened(int kinds, int count) {
        StringBuilder text = new StringBuilder();
        for (int k = 0; k < count; k++) {
            text.append((kinds >> k & 1) == 0 ? '!' : '(');
        }
        return text.toString();
    }

    private static String closed(int kinds, int count) {
        return ")".repeat(Integer.bitCount(kinds & ((1 << count) - 1)));
    }

    private static void eightDeepAndNoNinth() {
        Checks.sentence("! and ( are at most eight deep within one another (a ninth cannot "
                + "stand).");
        for (int kinds = 0; kinds < 512; kinds++) {
            String eight = opened(kinds, 8);
            String ends = closed(kinds, 8);
            good(eight + "0a" + ends);
            place(opened(kinds, 9), 8);
            place(opened(kinds, 9) + "0a" + closed(kinds, 9), 8);
            String joined = eight + "0a" + ends + "&";
            good(joined + eight + "0b" + ends);
            place(joined + opened(kinds, 9), joined.length() + 8);
        }
        place("((((((((0a&!0b))))))))", 11);
        place("((((((((0a|(0b)))))))))", 11);
        // Those that stand side by side, and not within one another, are not counted together.
        good("!0a&!0a&!0a&!0a&!0a|!0a|!0a|!0a|!0a|(0a)|(0a)|(0a)|(0a)|(0a)");
        good("(((((((!0a&!0b|(0c)&(0d))))))))");
        good("!!!!!!!!0a&!!!!!!!!0b|!!!!!!!!0c");
    }

    private static void testBeginsWithALayerAndName() {
        Checks.sentence("TEST: the digit of a layer with a NAME or $");
        for (int c = 0; c < 256; c++) {
            boolean layer = c >= '0' && c <= '3';
            boolean name = c >= 'a' && c <= 'h';
            int other = c == '!' || c == '(' ? 1 : 0;
            place((char) c + "a", layer ? NONE : other);
            place("0" + (char) c, name || c == '$' ? NONE : 1);
            place("3" + (char) c, name || c == '$' ? NONE : 1);
        }
        place("0", 1);
        place("00a", 1);
        place("0aa", 2);
        place("0$a", 2);
        place("0$$", 2);
        place("$", 0);
        place("a", 0);
        place("a0", 0);
    }

    private static void testHasOneComparisonAtMost() {
        Checks.sentence("and perhaps one of: = with one to four NUMBERs with commas between them, "
                + "< NUMBER, > NUMBER, ~ NUMBER.");
        String[] signs = {"=", "<", ">", "~"};
        for (String sign : signs) {
            good("0a" + sign + "1");
            good("0$" + sign + "1");
            place("0a" + sign, 3);
            for (String other : signs) {
                place("0a" + sign + other + "1", 3);
                place("0a" + sign + "1" + other + "1", 4);
            }
        }
        place("0a,1", 2);
        place("0a1", 2);
        place("0a!=1", 2);
        place("=1", 0);
    }

    private static void oneToFourNumbers() {
        Checks.sentence("= with one to four NUMBERs with commas between them");
        place("0a=", 3);
        good("0a=1");
        good("0a=1,2");
        good("0a=1,2,3");
        good("0a=1,2,3,4");
        place("0a=1,2,3,4,5", 10);
        place("0a=1,2,3,4,", 10);
        place("0a=,1", 3);
        place("0a=1,", 5);
        place("0a=1,,2", 5);
        place("0a=1,2,", 7);
        place("0a=1,2,3,", 9);
        place("0a=1,a", 5);
        place("0a=1,2,3,4&0b=1,2,3,4,5", 21);
        String[] signs = {"<", ">", "~"};
        for (String sign : signs) {
            place("0a" + sign + "1,2", 4);
        }
        // Each of the four counts, and so does the first one of a list that another test follows.
        CaptureBench bench = Checks.benchWith("a8");
        for (int value = 0; value < 6; value++) {
            Checks.addFrame(bench, 0, value, value);
        }
        dueMatches(bench, "0a=1", "010000");
        dueMatches(bench, "0a=1,2", "011000");
        dueMatches(bench, "0a=1,2,3", "011100");
        dueMatches(bench, "0a=1,2,3,4", "011110");
        dueMatches(bench, "0a=5,5,5,0", "100001");
        dueMatches(bench, "0a=1,2,3,4&0a=4", "000010");
        dueMatches(bench, "0a=4|0a=1,2,3,5", "011111");
    }

    private static void numbersHaveOneToSixDigits() {
        Checks.sentence("NUMBER: one to six digits 0 .. 9.");
        String[] before = {"0a=", "0a=1,", "0a=1,2,3,", "0a<", "0a>", "0a~"};
        for (String text : before) {
            int at = text.length();
            for (int digits = 1; digits <= 6; digits++) {
                good(text + "0".repeat(digits));
                good(text + "9".repeat(digits));
            }
            place(text + "9999999", at + 6);
            place(text + "0000000", at + 6);
            place(text + "0000001|0a", at + 6);
            for (int c = 0; c < 256; c++) {
                place(text + (char) c, c >= '0' && c <= '9' ? NONE : at);
            }
        }
        CaptureBench bench = Checks.decoded("a24", 0x0F, 0x42, 0x3F);
        dueMatches(bench, "0a=999999", "1");
        dueMatches(bench, "0a=99999", "0");
        bench = Checks.decoded("a8", 10);
        dueMatches(bench, "0a=000010", "1");
        dueMatches(bench, "0a=8", "0");
    }

    private static void testsAtTheirNumber() {
        Checks.sentence("whose value is one of the numbers, is less, is greater, or has a bit that "
                + "the number has, too");
        CaptureBench bench = Checks.benchWith("a8");
        int[] values = {0, 1, 4, 5, 6, 255};
        for (int k = 0; k < values.length; k++) {
            Checks.addFrame(bench, 0, k, values[k]);
        }
        dueMatches(bench, "0a=5", "000100");
        dueMatches(bench, "0a=0", "100000");
        dueMatches(bench, "0a=256", "000000");
        dueMatches(bench, "0a<5", "111000");
        dueMatches(bench, "0a<0", "000000");
        dueMatches(bench, "0a<1", "100000");
        dueMatches(bench, "0a<256", "111111");
        dueMatches(bench, "0a>5", "000011");
        dueMatches(bench, "0a>0", "011111");
        dueMatches(bench, "0a>255", "000000");
        dueMatches(bench, "0a>254", "000001");
        dueMatches(bench, "0a~0", "000000");
        dueMatches(bench, "0a~1", "010101");
        dueMatches(bench, "0a~2", "000011");
        dueMatches(bench, "0a~5", "011111");
        dueMatches(bench, "0a~256", "000000");
        dueMatches(bench, "0a~384", "000001");
    }

    private static void testsOfTheWidestValues() {
        Checks.sentence("whose value is one of the numbers, is less, is greater, or has a bit that "
                + "the number has, too");
        CaptureBench bench = Checks.benchWith("a32");
        Checks.addFrame(bench, 0, 0, 255, 255, 255, 255);
        Checks.addFrame(bench, 0, 1, 128, 0, 0, 0);
        Checks.addFrame(bench, 0, 2, 128, 0, 0, 1);
        dueMatches(bench, "0a>999999", "111");
        dueMatches(bench, "0a<999999", "000");
        dueMatches(bench, "0a=0,1,999999", "000");
        dueMatches(bench, "0a~1", "101");
        dueMatches(bench, "0a~999999", "101");
        dueMatches(bench, "0a~999998", "100");
    }

    private static void testsWithoutComparison() {
        Checks.sentence("without any of these, if it has such an entry.");
        CaptureBench bench = Checks.benchWith("a8?a=1(b8)?a=2($*)");
        for (int k = 0; k < 3; k++) {
            Checks.addFrame(bench, 0, k, k, 0);
        }
        Checks.addFrame(bench, 1, 3, 1, 0);
        dueMatches(bench, "0a", "1110");
        dueMatches(bench, "0b", "0100");
        dueMatches(bench, "0$", "0010");
        dueMatches(bench, "0c", "0000");
        // The comparison of the test before is not that of this one.
        dueMatches(bench, "0a=9|0b", "0100");
        dueMatches(bench, "0a<1|0b", "1100");
    }

    private static void testsLookAtOneLayerAndName() {
        Checks.sentence("A TEST is true for a frame if it has an entry of this layer and name ($: "
                + "a block)");
        CaptureBench bench = Checks.decoded("a8#a(b8)$b>a", 2, 9, 1, 7, 4, 5);
        Checks.describe(bench, 3, "h8$*");
        bench.follow(0, 2, 3);
        dueMatches(bench, "0a=2", "1");
        dueMatches(bench, "3a", "0");
        dueMatches(bench, "0b=9", "1");
        dueMatches(bench, "0b=1", "1");
        dueMatches(bench, "0b=2", "0");
        dueMatches(bench, "0b>8&0b<2", "1");
        dueMatches(bench, "0h", "0");
        dueMatches(bench, "3h=4", "1");
        dueMatches(bench, "0$=1", "1");
        dueMatches(bench, "3$=1", "1");
        dueMatches(bench, "1$", "0");
        dueMatches(bench, "0$=7", "0");
        // A repetition that the limit cut off is neither a block nor a field.
        bench.limit(2);
        dueMatches(bench, "0a=2&!0b&!0$&!0h", "1");
    }

    private static void testsPassOverMarks1And4() {
        Checks.sentence("with a mark other than 1 and 4 whose value is one of the numbers");
        CaptureBench bench = Checks.benchWith("a8=1b8!c8$c");
        Checks.addFrame(bench, 0, 0, 2);
        Checks.addFrame(bench, 0, 1, 1);
        Checks.addFrame(bench, 0, 2, 1, 9);
        Checks.addFrame(bench, 0, 3, 1, 1, 1);
        Checks.addFrame(bench, 0, 4, 1, 1, 0);
        dueMatches(bench, "0a", "11111");
        dueMatches(bench, "0a=2", "10000");
        dueMatches(bench, "0b", "00111");
        dueMatches(bench, "0b=0", "00000");
        dueMatches(bench, "0b=9", "00100");
        dueMatches(bench, "0c", "00011");
        dueMatches(bench, "0c=0", "00001");
        dueMatches(bench, "0$", "00001");
        dueMatches(bench, "0$=0", "00001");
        dueMatches(bench, "0$<1", "00001");
        bench.limit(4);
        dueMatches(bench, "0$", "00000");
        dueMatches(bench, "0c", "00011");
        bench.limit(2);
        dueMatches(bench, "0b", "00000");
        dueMatches(bench, "0b<1", "00000");
        bench.limit(1);
        dueMatches(bench, "0a", "00000");
        dueMatches(bench, "!0a", "11111");
    }

    private static void barsAndAndsAndNots() {
        Checks.sentence("| is true if one of its TERMs is, & if all FACTORs are, ! if its FACTOR "
                + "is not.");
        CaptureBench bench = Checks.benchWith("a1b1c1");
        for (int k = 0; k < 8; k++) {
            Checks.addFrame(bench, 0, k, k << 5);
        }
        dueMatches(bench, "0a=1|0b=1|0c=1", "01111111");
        dueMatches(bench, "0a=1&0b=1&0c=1", "00000001");
        dueMatches(bench, "0a=1|0b=1&0c=1", "00011111");
        dueMatches(bench, "0a=1&0b=1|0c=1", "01010111");
        dueMatches(bench, "(0a=1|0b=1)&0c=1", "00010101");
        dueMatches(bench, "0c=1&(0a=1|0b=1)", "00010101");
        dueMatches(bench, "!0a=1", "11110000");
        dueMatches(bench, "!!0a=1", "00001111");
        dueMatches(bench, "!0a=1&0b=1", "00110000");
        dueMatches(bench, "!0a=1|0b=1", "11110011");
        dueMatches(bench, "!(0a=1&0b=1)", "11111100");
        dueMatches(bench, "!(0a=1|0b=1)", "11000000");
        bench = Checks.benchWith("a1b1c1");
        for (int k = 0; k < 8; k++) {
            Checks.addFrame(bench, 0, k, k << 5);
        }
        dueMatches(bench, "!!!!!!!!0a=1", "00001111");
        dueMatches(bench, "!!!!!!!0a=1", "11110000");
        dueMatches(bench, "((((((((0a=1|0b=1))))))))&0c=1", "00010101");
        // A frame without any entry.
        bench.root(0, -1);
        dueMatches(bench, "0a", "00000000");
        dueMatches(bench, "!0a", "11111111");
        dueMatches(bench, "!0a&!0$", "11111111");
    }

    private static void filtersHaveNumbers0To3() {
        Checks.sentence("FILTERS have the numbers 0 .. 3, and match each frame for which they are "
                + "true.");
        CaptureBench bench = Checks.benchWith("a8");
        for (int k = 0; k < 4; k++) {
            Checks.addFrame(bench, 0, k, k);
        }
        for (int filter = 0; filter < 4; filter++) {
            Checks.makeFilter(bench, filter, "0a=" + filter);
        }
        for (int filter = 0; filter < 4; filter++) {
            Checks.due("next(" + filter + ", 0)", bench.next(filter, 0), filter);
            Checks.due("total of " + filter, bench.total(filter, 0, 0, 1), filter);
        }
        Checks.makeFilter(bench, 3, "0a");
        for (int k = 0; k < 4; k++) {
            Checks.due("next(3, " + k + ")", bench.next(3, k), k);
        }
        Checks.due("all frames", bench.total(3, 0, 0, 0), 4);
    }

    private static void firstValueIsTheFirst() {
        Checks.sentence("The FIRST VALUE of a layer's name in a frame is that of its first entry "
                + "with a mark other than 1 and 4.");
        CaptureBench bench = Checks.decoded("a8#a(b8$b)>a", 2, 1, 77, 0, 3, 9);
        Checks.describe(bench, 1, "b8c8");
        bench.follow(0, 2, 1);
        Checks.makeFilter(bench, 0, "0a");
        Checks.due("of a", bench.total(0, 0, 0, 1), 2);
        Checks.due("of b, with later ones", bench.total(0, 0, 1, 1), 1);
        Checks.due("of the blocks", bench.total(0, 0, BLOCK, 1), 1);
        Checks.due("of b in layer 1", bench.total(0, 1, 1, 1), 3);
        Checks.due("of c in layer 1", bench.total(0, 1, 2, 1), 9);
        Checks.due("of c in layer 0", bench.total(0, 0, 2, 0), 0);
        Checks.due("of a block in layer 1", bench.total(0, 1, BLOCK, 0), 0);
    }

    private static void firstValuePassesOverMarks1And4() {
        Checks.sentence("The FIRST VALUE of a layer's name in a frame is that of its first entry "
                + "with a mark other than 1 and 4.");
        CaptureBench bench = Checks.decoded("a8!b8=3c8", 7, 4, 5);
        Checks.makeFilter(bench, 0, "0a");
        Checks.due("with mark 3", bench.total(0, 0, 0, 1), 7);
        Checks.due("with mark 2", bench.total(0, 0, 1, 1), 4);
        Checks.due("behind the end", bench.total(0, 0, 2, 0), 0);
        Checks.describe(bench, 0, "a8b32");
        Checks.due("with mark 1", bench.total(0, 0, 1, 0), 0);
        Checks.due("talks with mark 1", bench.talks(0, 0, 0, 1), 0);
        Checks.describe(bench, 0, "a8$a");
        Checks.due("of a block with mark 1", bench.total(0, 0, BLOCK, 0), 0);
        Checks.describe(bench, 0, "a8b8$*");
        bench.limit(3);
        Checks.due("of a block with mark 4", bench.total(0, 0, BLOCK, 0), 0);
        bench.limit(2);
        Checks.due("with mark 4", bench.total(0, 0, 1, 0), 0);
        Checks.due("talks with mark 4", bench.talks(0, 1, 0, 0), 0);
    }
}
