/** Promise 4: layer, and the layer texts. */
public final class LayerTextTest {
    public static void main(String[] args) {
        goodTexts();
        wrongFields();
        wrongWidthsAndNumbers();
        wrongNames();
        wrongGroupsAndOptions();
        wrongEnds();
        depth();
        longTexts();
        everyCutOfATextEndsTooEarly();
        wrongTextChangesNothing();
        goodTextReplaces();
        wrongLayers();
        Checks.end();
    }

    private static void place(String text, int want) {
        Checks.dueLayerPlace(text, want);
    }

    private static void good(String text) {
        place(text, -1);
    }

    private static void goodTexts() {
        good("a1");
        good("h32");
        good("a16<");
        good("a24<");
        good("a32<");
        good("a016<!");
        good("a000008");
        good("a16<=999999");
        good("a8=0");
        good("a8=000000");
        good("a3!");
        good("$*");
        good("$*$*");
        good("a8$a");
        good("a8#a(b8)");
        good("#*(a8)$a");
        good("#*(a8$a)>a");
        good("a8?a=3(b8)");
        good("a8?a<000003($*)?a=4(#*(b1))>b");
        good("a8>a");
        good("a1b2c3d4e5f6g7h8>h");
        good("h1g1f1");
    }

    private static void wrongFields() {
        place("", 0);
        place("a", 1);
        place("a<", 1);
        place("a=1", 1);
        place("a8x", 2);
        place("i8", 0);
        place("A8", 0);
        place("`8", 0);
        place("8", 0);
        place("a8 b8", 2);
        place("a8=", 3);
        place("a8=!", 3);
        place("a8!!", 3);
        place("a8!=1", 3);
        place("a8=1!", 4);
        place("a8=1=1", 4);
        place("a16<<", 4);
        place("a16=1<", 5);
        place("a16!<", 4);
        place("\u00e1", 0);
        place("a8\u0000", 2);
        place("a8\u00ff", 2);
    }

    private static void wrongWidthsAndNumbers() {
        place("a0", 1);
        place("a33", 1);
        place("a330", 1);
        place("a0b8", 1);
        place("a000000", 1);
        place("a1234567", 1);
        place("b8a33", 3);
        place("a0000012", 7);
        place("a8<", 2);
        place("a15<", 3);
        place("a17<", 3);
        place("a31<", 3);
        place("a9<=1", 2);
        place("a8=1234567", 9);
        place("a8=0000000", 9);
        place("a8?a=1234567(b8)", 11);
        place("a8?a<1234567(b8)", 11);
        place("a8=12345x", 8);
    }

    private static void wrongNames() {
        place("a8a8", 2);
        place("a8b8a", 4);
        place("#*(a8)a8", 6);
        place("a8#a(b8)?b=1(b8)", 13);
        place("$a", 1);
        place("$b", 1);
        place("$aa8", 1);
        place("a8$b", 3);
        place("a8$i", 3);
        place("a8#b(b8)", 3);
        place("#a(a8)", 1);
        place("?a=1(a8)", 1);
        place("a8?b=1(c8)", 3);
        place("a8?*=1(c8)", 3);
        place("a8?(c8)", 3);
        place("a8#(c8)", 3);
        place("a8>b", 3);
        place("a8>*", 3);
        place("$*>a", 3);
        place("a8>", 3);
    }

    private static void wrongGroupsAndOptions() {
        place("#", 1);
        place("?", 1);
        place("$", 1);
        place("$(", 1);
        place("#8", 1);
        place("#*", 2);
        place("#*a8", 2);
        place("#*(", 3);
        place("#*()", 3);
        place("#*(a8", 5);
        place("#*(a8>a)", 5);
        place("a8#a[b8]", 4);
        place("a8?a", 4);
        place("a8?a>1(b8)", 4);
        place("a8?a(b8)", 4);
        place("a8?a=", 5);
        place("a8?a=(b8)", 5);
        place("a8?a=1", 6);
        place("a8?a=1b8", 6);
        place("a8?a=1()", 7);
        place("a8?a<<1(b8)", 5);
        place("a8?a=1,2(b8)", 6);
    }

    private static void wrongEnds() {
        place("(a8)", 0);
        place(")", 0);
        place("a8)", 2);
        place(">a", 0);
        place("#*(a8))", 6);
        place("a8>aa", 4);
        place("a8>ab8", 4);
        place("a8>a>a", 4);
        place("a8>a8", 4);
        place("a8>a$*", 4);
        place("a8|", 2);
    }

    private static void depth() {
        good("a1#a(#a(#a(b1)))");
        good("a1?a=1(#*(?a<2(b1)))#*(#*(#*(c1)))");
        place("a1#a(#a(#a(#a(b1))))", 11);
        place("a1?a=1(?a=1(?a=1(?a=1(b1))))", 17);
        place("a1#a(?a=1(#a(b1?a=1(c1))))", 15);
        place("a1#a(#a(#a(#", 11);
        place("a1#a(#a(#a(b1)#a(c1)))#a(#a(#a(#", 31);
    }

    private static void longTexts() {
        good("$*".repeat(40));
        good("#*(" + "$*".repeat(38) + ")");
        place("$*".repeat(39) + "a", 79);
        place("$*".repeat(39) + "$a", 79);
        place("$*".repeat(39) + "$", 79);
        place("$*".repeat(39) + "$x", 79);
        good("a1$a#a(" + "$a".repeat(36) + ")");
    }

    private static void everyCutOfATextEndsTooEarly() {
        String text = "a16<=7?a=7(b3!#b($*))>b";
        good(text);
        // Behind these the items may end, so that the shorter text is one, too.
        java.util.List<Integer> whole = java.util.List.of(2, 3, 4, 6, 21);
        for (int n = 0; n < text.length(); n++) {
            place(text.substring(0, n), whole.contains(n) ? -1 : n);
        }
    }

    private static void wrongTextChangesNothing() {
        CaptureBench bench = Checks.benchWith("a8$*");
        Checks.addFrame(bench, 0, 0, 5, 6);
        Checks.due("talks before", bench.talks(0, 0, 0, 0), 1);
        Checks.write(bench, "a4b4>c");
        Checks.due("layer(0) of a wrong text", bench.layer(0), 5);
        Checks.due("talks stay", bench.talk(0, 0), 5);
        Checks.due("the layer stays", bench.decode(0), 2);
        Checks.dueEntry(bench, 0, 1, Checks.facts(0, 8, 8, 8, 0), 1);
        Checks.due("the draft stays, and can be mended", bench.write(1, 'x'), 7);
        Checks.due("the same place whatever follows", bench.layer(0), 5);
        Checks.due("draft", bench.wipe(), 7);
    }

    private static void goodTextReplaces() {
        CaptureBench bench = Checks.benchWith("a8>a");
        bench.follow(0, 1, 1);
        Checks.describe(bench, 1, "b8");
        Checks.addFrame(bench, 0, 0, 1, 2);
        Checks.due("entries by the first text", bench.decode(0), 2);
        Checks.describe(bench, 0, "c4d4>d");
        Checks.due("root and follower stay", bench.decode(0), 3);
        Checks.dueEntry(bench, 0, 0, Checks.facts(0, 2, 0, 4, 0), 0);
        Checks.dueEntry(bench, 0, 2, Checks.facts(1, 1, 8, 8, 0), 2);
        Checks.describe(bench, 0, "a16");
        Checks.due("nothing of the old text stays", bench.decode(0), 1);
        Checks.describe(bench, 0, "a16<");
        Checks.due("with <", bench.value(0, 0), 0x201);
        Checks.describe(bench, 0, "a16");
        Checks.due("no < any more", bench.value(0, 0), 0x102);
        Checks.describe(bench, 0, "a2?a=3(b2c2)d2");
        Checks.describe(bench, 0, "a2#a(b2$*c2)d2");
        Checks.describe(bench, 0, "a1b1c1d1e1f1g1h1");
        Checks.due("no option any more", bench.decode(0), 8);
        Checks.describe(bench, 0, "a1b1c1d1e1f1g1");
        Checks.due("no group any more", bench.decode(0), 7);
    }

    private static void wrongLayers() {
        CaptureBench bench = new CaptureBench();
        Checks.write(bench, "a8");
        int[] wrong = {-1, 4, Integer.MIN_VALUE, Integer.MAX_VALUE};
        for (int layer : wrong) {
            Checks.dueIllegalArgument("layer(" + layer + ")", () -> bench.layer(layer));
        }
        Checks.due("the draft stays", bench.wipe(), 2);
        Checks.dueIllegalArgument("layer(4) of a wrong text", () -> bench.layer(4));
        for (int layer = 0; layer < 4; layer++) {
            Checks.describe(bench, layer, "a8");
        }
    }
}
