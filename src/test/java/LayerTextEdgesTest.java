/** The edges of layer texts: a test for each sentence of the document's terms that names one. */
public final class LayerTextEdgesTest {
    private static final int NONE = Checks.NONE;
    private static final String EIGHT_FIELDS = "a1b1c1d1e1f1g1h1";

    public static void main(String[] args) {
        draftHasUpTo80Bytes();
        textIsMadeOfTheDraft();
        numbersHaveOneToSixDigits();
        numbersAreReadWhole();
        widthsOfSevenDigits();
        namesAreAToH();
        layersHaveNumbers0To3();
        layerIsItemsPerhapsWithAName();
        itemsAreOneOrMore();
        itemIsOneOfFourKinds();
        fieldHasItsPartsInOrder();
        widthsAre1To32();
        otherOrderOnlyBehind16And24And32();
        nameIsOfOneFieldAtMost();
        blockIsDollarAndCount();
        groupIsHashAndCountAndItems();
        countIsNameOrStar();
        optionHasNameAndNumberAndItems();
        threeDeepAndNoFourth();
        namesStandBefore();
        Checks.end();
    }

    private static void place(String text, int want) {
        Checks.dueLayerPlace(text, want);
    }

    private static void good(String text) {
        place(text, NONE);
    }

    private static boolean isName(int c) {
        return c >= 'a' && c <= 'h';
    }

    private static boolean isDigit(int c) {
        return c >= '0' && c <= '9';
    }

    private static void draftHasUpTo80Bytes() {
        Checks.sentence("THE DRAFT is a row of up to 80 bytes, 0 .. 255.");
        CaptureBench full = new CaptureBench();
        for (int size = 1; size <= 80; size++) {
            Checks.due("write of a byte", full.write(1, size), size);
        }
        Checks.due("write of an 81st byte", full.write(1, 1), NONE);
        CaptureBench bench = Checks.benchWith("#*(a8)");
        bench.write(1, -1L);
        bench.write(1, 256);
        bench.write(1, 255);
        bench.write(1, 127);
        bench.write(1, 128);
        bench.write(1, Long.MIN_VALUE);
        bench.frame(0, 0);
        int[] bytes = {255, 0, 255, 127, 128, 0};
        for (int k = 0; k < bytes.length; k++) {
            Checks.due("byte " + k, bench.value(0, k), bytes[k]);
        }
    }

    private static void textIsMadeOfTheDraft() {
        Checks.sentence("A TEXT is made of their characters.");
        good("$*".repeat(39) + "a1");
        place("$*".repeat(39) + "a", 79);
        place("$*".repeat(39) + "a?", 79);
        place("a8\u0000", 2);
        place("\u0000a8", 0);
        CaptureBench bench = Checks.benchWith("a8");
        Checks.addFrame(bench, 0, 0, 1, 2);
        Checks.write(bench, "c8d8");
        bench.wipe();
        Checks.write(bench, "a8");
        Checks.due("layer(0) of a text shorter than a wiped one", bench.layer(0), NONE);
        Checks.due("entries by the shorter text", bench.decode(0), 1);
    }

    private static void numbersHaveOneToSixDigits() {
        Checks.sentence("NUMBER: one to six digits 0 .. 9.");
        String[] before = {"a8=", "a8?a=", "a8?a<"};
        String[] behind = {"", "(b8)", "(b8)"};
        for (int k = 0; k < before.length; k++) {
            int at = before[k].length();
            place(before[k], at);
            place(before[k] + behind[k], at);
            for (int digits = 1; digits <= 6; digits++) {
                good(before[k] + "0".repeat(digits) + behind[k]);
                good(before[k] + "9".repeat(digits) + behind[k]);
            }
            place(before[k] + "9".repeat(7) + behind[k], at + 6);
            place(before[k] + "0".repeat(7) + behind[k], at + 6);
            for (int c = 0; c < 256; c++) {
                if (isDigit(c)) {
                    good(before[k] + (char) c + behind[k]);
                } else {
                    place(before[k] + (char) c + behind[k], at);
                }
            }
        }
    }

    private static void numbersAreReadWhole() {
        Checks.sentence("NUMBER: one to six digits 0 .. 9.");
        // 999999 is 0x0F423F, 123456 is 0x01E240.
        Checks.dueEntries(Checks.decoded("a24=999999b24=123456c8=010d8=000009",
                        0x0F, 0x42, 0x3F, 0x01, 0xE2, 0x40, 10, 9),
                Checks.row(0, 0, 0, 24, 0, 999999), Checks.row(0, 1, 24, 24, 0, 123456),
                Checks.row(0, 2, 48, 8, 0, 10), Checks.row(0, 3, 56, 8, 0, 9));
    }

    private static void widthsOfSevenDigits() {
        // The six digits are a WIDTH of their own; only a WIDTH that is none is told by its first.
        Checks.sentence("NUMBER: one to six digits 0 .. 9.");
        good("a000001");
        good("a000032");
        place("a0000012", 7);
        place("a0000010", 7);
        place("a0000320", 7);
        place("a000033", 1);
        place("a0000330", 1);
        place("a0000000", 1);
        place("a0000001", 1);
        place("a9999999", 1);
    }

    private static void namesAreAToH() {
        Checks.sentence("NAME: one of a .. h.");
        for (int c = 0; c < 256; c++) {
            String text = "" + (char) c;
            boolean opens = c == '$' || c == '#' || c == '?';
            place(text + "8", isName(c) ? NONE : opens ? 1 : 0);
            place(EIGHT_FIELDS + "$" + text, isName(c) || c == '*' ? NONE : 17);
            place(EIGHT_FIELDS + "#" + text + "($*)", isName(c) || c == '*' ? NONE : 17);
            place(EIGHT_FIELDS + "?" + text + "=1($*)", isName(c) ? NONE : 17);
            place(EIGHT_FIELDS + ">" + text, isName(c) ? NONE : 17);
        }
    }

    private static void layersHaveNumbers0To3() {
        Checks.sentence("LAYERS have the numbers 0 .. 3.");
        CaptureBench bench = new CaptureBench();
        Checks.addFrame(bench, 0, 0, 0xFF);
        for (int layer = 0; layer < 4; layer++) {
            Checks.describe(bench, layer, "a" + (layer + 1));
        }
        for (int layer = 0; layer < 4; layer++) {
            bench.root(0, layer);
            Checks.dueEntries(bench, Checks.row(layer, 0, 0, layer + 1, 0, (2L << layer) - 1));
        }
        Checks.write(bench, "a8");
        int[] wrong = {-1, 4, Integer.MIN_VALUE, Integer.MAX_VALUE};
        for (int layer : wrong) {
            Checks.dueIllegalArgument("layer(" + layer + ")", () -> bench.layer(layer));
        }
    }

    private static void layerIsItemsPerhapsWithAName() {
        Checks.sentence("LAYER: ITEMS, perhaps with > NAME behind them.");
        good("a8");
        good("a8>a");
        place(">a", 0);
        place("a8>", 3);
        place("a8>8", 3);
        place("a8>*", 3);
        place("a8>>a", 3);
        place("a8>aa", 4);
        place("a8>ab8", 4);
        place("a8>a8", 4);
        place("a8>a=1", 4);
        place("a8>a$*", 4);
        place("a8>a>a", 4);
        place("#*(a8>a)", 5);
        place("a8?a=1(b8>b)", 9);
        good("#*(a8)>a");
    }

    private static void itemsAreOneOrMore() {
        Checks.sentence("ITEMS: one ITEM or more.");
        place("", 0);
        place("#*()", 3);
        place("a8#a()", 5);
        place("a8?a=1()", 7);
        place("a8?a<1()", 7);
        good("$*");
        good("#*($*)");
        good("$*".repeat(40));
        good("#*(" + "$*".repeat(38) + ")");
        CaptureBench bench = Checks.decoded("$*".repeat(40), 1, 2);
        Checks.due("forty items are run", bench.decode(0), 40);
    }

    private static void itemIsOneOfFourKinds() {
        Checks.sentence("ITEM: a FIELD, a BLOCK, a GROUP or an OPTION.");
        for (int c = 0; c < 256; c++) {
            boolean opens = "bcdefgh$#?".indexOf(c) >= 0;
            place("a8!" + (char) c, opens || c == '>' ? 4 : 3);
            place("#*(a8!" + (char) c, c == ')' ? NONE : opens ? 7 : 6);
            place("$*" + (char) c, opens || c == 'a' || c == '>' ? 3 : 2);
        }
        good("a8$*#*(b8)?a=1(c8)");
        good("a8?a=1(c8)#*(b8)$*");
        good("#*(a8?a=1(b8)#a(c8)$ad8)");
    }

    private static void fieldHasItsPartsInOrder() {
        Checks.sentence("FIELD: NAME WIDTH, perhaps with < behind it, and perhaps behind that = "
                + "NUMBER or !");
        good("a16");
        good("a16<");
        good("a16=1");
        good("a16!");
        good("a16<=1");
        good("a16<!");
        place("a", 1);
        place("a<", 1);
        place("a=1", 1);
        place("a!", 1);
        place("16a", 0);
        place("a16=", 4);
        place("a16<=", 5);
        place("a16<<", 4);
        place("a16=1<", 5);
        place("a16!<", 4);
        place("a16!!", 4);
        place("a16!=1", 4);
        place("a16=1!", 5);
        place("a16=1=1", 5);
        place("a16=!", 4);
        place("a16<<=1", 4);
        place("a16>1", 4);
        for (int c = 0; c < 256; c++) {
            // Behind 8 a digit makes another WIDTH, and ! is the one that ends a field at once.
            int want = isDigit(c) ? 1 : c == '!' ? NONE : "bcdefgh$#?>=".indexOf(c) >= 0 ? 3 : 2;
            place("a8" + (char) c, want);
        }
    }

    private static void widthsAre1To32() {
        Checks.sentence("WIDTH: a NUMBER 1 .. 32");
        for (int width = 0; width < 100; width++) {
            place("a" + width, width >= 1 && width <= 32 ? NONE : 1);
            place("b8a" + width, width >= 1 && width <= 32 ? NONE : 3);
        }
        place("a100", 1);
        place("a320", 1);
        place("a65537", 1);
        place("a999999", 1);
        place("a0b8", 1);
        place("a33<", 1);
        place("a33x", 1);
        place("#*(a0)", 4);
        Checks.dueEntries(Checks.decoded("a1b32", 0xFF, 0xFF, 0xFF, 0xFF, 0x80),
                Checks.row(0, 0, 0, 1, 0, 1), Checks.row(0, 1, 1, 32, 0, 0xFFFFFFFFL));
    }

    private static void otherOrderOnlyBehind16And24And32() {
        Checks.sentence("< stands only behind 16, 24 and 32.");
        for (int width = 1; width <= 32; width++) {
            String field = "a" + width;
            boolean whole = width == 16 || width == 24 || width == 32;
            place(field + "<", whole ? NONE : field.length());
            place(field + "<=1", whole ? NONE : field.length());
            place(field + "<!", whole ? NONE : field.length());
        }
        good("a016<");
        good("a000032<");
        place("a008<", 4);
    }

    private static void nameIsOfOneFieldAtMost() {
        Checks.sentence("A NAME is that of one field of the layer at most.");
        good(EIGHT_FIELDS);
        for (char name = 'a'; name <= 'h'; name++) {
            place(EIGHT_FIELDS + name, 16);
            place(EIGHT_FIELDS + name + "8", 16);
        }
        place("a8a8", 2);
        place("a8a", 2);
        place("a8$*a8", 4);
        place("a8#*(a8)", 5);
        place("#*(a8)a8", 6);
        place("#*(a8a8)", 5);
        place("a8?a=1(a8)", 7);
        place("a8?a=1(b8)?a=2(b8)", 15);
        CaptureBench bench = new CaptureBench();
        Checks.describe(bench, 0, "a8b8");
        Checks.describe(bench, 0, "b8a8");
        Checks.describe(bench, 1, "a8b8");
        Checks.write(bench, "c8d8)");
        Checks.due("layer(1) of a wrong text", bench.layer(1), 4);
        Checks.describe(bench, 1, "d8c8");
    }

    private static void blockIsDollarAndCount() {
        Checks.sentence("BLOCK: $ COUNT");
        good("$*");
        good("a8$a");
        place("$", 1);
        place("$$", 1);
        place("$8", 1);
        place("$(*)", 1);
        place("a8$", 3);
        place("a8$a8", 4);
        place("$*8", 2);
        place("$*=1", 2);
        place("$*!", 2);
        place("$*<", 2);
    }

    private static void groupIsHashAndCountAndItems() {
        Checks.sentence("GROUP: # COUNT ( ITEMS )");
        good("#*(a8)");
        good("a8#a(b8)");
        place("#", 1);
        place("#(a8)", 1);
        place("#*", 2);
        place("#*a8", 2);
        place("#*(", 3);
        place("#*)", 2);
        place("#*(a8", 5);
        place("#*(a8(", 5);
        place("#*(a8))", 6);
        place("#*((a8))", 3);
        place("a8)", 2);
        place("(a8)", 0);
    }

    private static void countIsNameOrStar() {
        Checks.sentence("COUNT: NAME or *");
        place("a8$**", 4);
        place("a8$*a", 4);
        place("a8$1", 3);
        place("a8#1(b8)", 3);
        place("a8#**(b8)", 4);
        place("a8#aa(b8)", 4);
        place("*", 0);
        place("a8*", 2);
    }

    private static void optionHasNameAndNumberAndItems() {
        Checks.sentence("OPTION: ? NAME = NUMBER ( ITEMS ) or ? NAME < NUMBER ( ITEMS )");
        good("a8?a=1(b8)");
        good("a8?a<1(b8)");
        place("a8?", 3);
        place("a8?*=1(b8)", 3);
        place("a8?=1(b8)", 3);
        place("a8?1=1(b8)", 3);
        place("a8?a", 4);
        place("a8?a>1(b8)", 4);
        place("a8?a~1(b8)", 4);
        place("a8?a!(b8)", 4);
        place("a8?a(b8)", 4);
        place("a8?a1(b8)", 4);
        place("a8?a==1(b8)", 5);
        place("a8?a<=1(b8)", 5);
        place("a8?a=a(b8)", 5);
        place("a8?a=1", 6);
        place("a8?a=1b8", 6);
        place("a8?a=1,2(b8)", 6);
        place("a8?a=1(", 7);
        place("a8?a=1(b8", 9);
        place("a8?a=1(b8))", 10);
    }

    /** Four openings, each a group's or an option's by the bits of a number, and the last open. */
    private static String opened(int kinds, int count) {
        StringBuilder text = new StringBuilder("a1");
        for (int k = 0; k < count; k++) {
            text.append((kinds >> k & 1) == 0 ? "#a(" : "?a=1(");
        }
        return text.toString();
    }

    private static void threeDeepAndNoFourth() {
        Checks.sentence("Groups and options are at most three deep within one another (the # or ? "
                + "of a fourth cannot stand).");
        for (int kinds = 0; kinds < 16; kinds++) {
            String three = opened(kinds, 3);
            good(three + "b1)))");
            good(three + "b1)))" + opened(kinds, 3).substring(2) + "c1)))");
            place(opened(kinds, 4) + "b1))))", three.length());
            place(opened(kinds, 4).substring(0, three.length() + 1), three.length());
            place(three + "b1" + opened(kinds, 1).substring(2) + "c1))))", three.length() + 2);
            place(three + "b1" + opened(1 - (kinds & 1), 1).substring(2) + "c1))))",
                    three.length() + 2);
        }
        good("a1#a(#a(#a(b1)#a(c1))#a(#a(d1)))#a(#a(#a(e1)))");
        place("a1#a(#a(#a(b1)#a(c1))#a(#a(#a(d1))))", 27);
    }

    private static void namesStandBefore() {
        Checks.sentence("A NAME that is not a field's is that of a field that stands before it in "
                + "the text.");
        place("$a", 1);
        place("$aa8", 1);
        place("#a(a8)", 1);
        place("?a=1(a8)", 1);
        place("#*($aa8)", 4);
        place("a8$b", 3);
        place("a8$bb8", 3);
        place("a8#b(b8)", 3);
        place("a8?b=1(b8)", 3);
        place("a8?b<1(b8)", 3);
        place("a8>b", 3);
        place("$*>a", 3);
        place("#*(b8)>a", 7);
        good("#*(a8$a)");
        good("#*(a8)$a");
        good("a8?a=1(b8)$b#b(c8)?b<3(d8)>d");
        good("a8?a=1(#*(b8))>b");
        CaptureBench bench = new CaptureBench();
        Checks.describe(bench, 0, "a8b8");
        Checks.write(bench, "a8$b");
        Checks.due("a field of the text that was there before", bench.layer(0), 3);
        Checks.due("a field of another layer", bench.layer(1), 3);
    }
}
