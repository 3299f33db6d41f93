/** Promises 9 to 12: limit, decode, entry, value, with the terms on decoding. */
public final class DecodeTest {
    public static void main(String[] args) {
        fieldsTakeBits();
        fieldsInOtherOrder();
        fieldsTooShort();
        fixedFields();
        sumFields();
        sumsBeginWithTheLayersRun();
        blocks();
        blocksTooShort();
        groups();
        options();
        threeDeep();
        valuesAreOfThisRun();
        chooserMustBeEntered();
        limitEndsFields();
        limitEndsBlocksAndRepetitions();
        limitEndsLayers();
        wrongLimits();
        wrongEntries();
        Checks.end();
    }

    private static void dueEntry(CaptureBench bench, int k, int[] facts, long value) {
        Checks.dueEntry(bench, 0, k, facts, value);
    }

    private static int[] facts(int name, int firstBit, int bits, int mark) {
        return Checks.facts(0, name, firstBit, bits, mark);
    }

    private static CaptureBench decoded(String text, int... bytes) {
        return Checks.decoded(text, bytes);
    }

    private static void fieldsTakeBits() {
        CaptureBench bench = decoded("a1b7c12d32e12",
                0x85, 0xAB, 0xCD, 0xEF, 0x01, 0x23, 0x45, 0x67);
        Checks.due("decode(0)", bench.decode(0), 5);
        dueEntry(bench, 0, facts(0, 0, 1, 0), 1);
        dueEntry(bench, 1, facts(1, 1, 7, 0), 5);
        dueEntry(bench, 2, facts(2, 8, 12, 0), 0xABC);
        dueEntry(bench, 3, facts(3, 20, 32, 0), 0xDEF01234L);
        dueEntry(bench, 4, facts(4, 52, 12, 0), 0x567);
    }

    private static void fieldsInOtherOrder() {
        CaptureBench bench = decoded("a16<b24<c32<", 1, 2, 3, 4, 5, 6, 7, 8, 0xF9);
        dueEntry(bench, 0, facts(0, 0, 16, 0), 0x0201);
        dueEntry(bench, 1, facts(1, 16, 24, 0), 0x050403);
        dueEntry(bench, 2, facts(2, 40, 32, 0), 0xF9080706L);
        bench = decoded("a4b16<c32", 0x12, 0x34, 0x56, 0x78, 0x9A, 0xBC, 0xDE);
        dueEntry(bench, 1, facts(1, 4, 16, 0), 0x4523);
        dueEntry(bench, 2, facts(2, 20, 32, 0), 0x6789ABCDL);
    }

    private static void fieldsTooShort() {
        CaptureBench bench = decoded("a4b5c1", 0xFF);
        Checks.due("decode(0)", bench.decode(0), 2);
        dueEntry(bench, 1, facts(1, 4, 0, 1), 0);
        bench = decoded("a4b4c1", 0xFF);
        Checks.due("decode(0)", bench.decode(0), 3);
        dueEntry(bench, 1, facts(1, 4, 4, 0), 15);
        dueEntry(bench, 2, facts(2, 8, 0, 1), 0);
        bench = decoded("a8=0b1=0c1!", 0);
        Checks.due("too short goes before other marks", bench.decode(0), 2);
        dueEntry(bench, 1, facts(1, 8, 0, 1), 0);
    }

    private static void fixedFields() {
        CaptureBench bench = decoded("a8=7b8=9c8", 7, 8, 9);
        Checks.due("decode(0)", bench.decode(0), 2);
        dueEntry(bench, 0, facts(0, 0, 8, 0), 7);
        dueEntry(bench, 1, facts(1, 8, 8, 2), 8);
        bench = decoded("a16<=513b8=256c8", 1, 2, 0);
        dueEntry(bench, 0, facts(0, 0, 16, 0), 513);
        dueEntry(bench, 1, facts(1, 16, 8, 2), 0);
        Checks.due("a number that the field cannot be", bench.decode(0), 2);
    }

    private static void sumFields() {
        CaptureBench bench = decoded("a8b8c8!d8", 200, 100, 44, 5);
        dueEntry(bench, 2, facts(2, 16, 8, 0), 44);
        Checks.due("decode(0)", bench.decode(0), 4);
        bench = decoded("a8b8c8!d8", 200, 100, 43, 5);
        dueEntry(bench, 2, facts(2, 16, 8, 3), 43);
        Checks.due("decoding goes on", bench.decode(0), 4);
        bench = decoded("a8b8c16<!", 200, 100, 44, 1);
        dueEntry(bench, 2, facts(2, 16, 16, 0), 300);
        bench = decoded("a32!", 0, 0, 0, 0);
        dueEntry(bench, 0, facts(0, 0, 32, 0), 0);
        // The second byte is not whole before the field.
        bench = decoded("a8b4c4!", 0x13, 0xF3);
        dueEntry(bench, 2, facts(2, 12, 4, 0), 3);
        bench = decoded("a8b7c1!", 0x13, 0xF1);
        dueEntry(bench, 2, facts(2, 15, 1, 0), 1);
        bench = decoded("a8b8c1!", 0x13, 0xF1, 0);
        dueEntry(bench, 2, facts(2, 16, 1, 0), 0);
        bench = decoded("a8b32c32!", 1, 255, 255, 255, 255, 0, 0, 3, 0xFD);
        dueEntry(bench, 2, facts(2, 40, 32, 0), 0x3FD);
    }

    private static void sumsBeginWithTheLayersRun() {
        CaptureBench bench = decoded("a8b4>a", 1, 0x23, 4, 5, 0xFF);
        Checks.describe(bench, 1, "c4d8e8f8!");
        bench.follow(0, 1, 1);
        dueEntry(bench, 5, Checks.facts(1, 5, 32, 8, 3), 255);
        bench.drop(0);
        // The layer begins within the second byte, so that only the third and fourth count.
        Checks.addFrame(bench, 0, 0, 1, 0x23, 4, 5, 9);
        dueEntry(bench, 5, Checks.facts(1, 5, 32, 8, 0), 9);
        Checks.describe(bench, 0, "a8>a");
        bench.drop(0);
        Checks.addFrame(bench, 0, 0, 1, 0x23, 0x40, 0x50, 0xB3);
        Checks.describe(bench, 1, "c24d8!");
        dueEntry(bench, 2, Checks.facts(1, 3, 32, 8, 0), 0xB3);
    }

    private static void blocks() {
        CaptureBench bench = decoded("a8$ab8$b$*$*", 2, 8, 9, 0, 5, 6, 7);
        Checks.due("decode(0)", bench.decode(0), 6);
        dueEntry(bench, 1, facts(8, 8, 16, 0), 2);
        dueEntry(bench, 3, facts(8, 32, 0, 0), 0);
        dueEntry(bench, 4, facts(8, 32, 24, 0), 3);
        dueEntry(bench, 5, facts(8, 56, 0, 0), 0);
        bench = decoded("a3$*b5", 0xFF, 0xFF, 0xFF);
        dueEntry(bench, 1, facts(8, 3, 16, 0), 2);
        dueEntry(bench, 2, facts(1, 19, 5, 0), 31);
        bench = decoded("a8$a", 1, 1);
        dueEntry(bench, 1, facts(8, 8, 8, 0), 1);
    }

    private static void blocksTooShort() {
        CaptureBench bench = decoded("a8$ab8", 2, 1);
        Checks.due("decode(0)", bench.decode(0), 2);
        dueEntry(bench, 1, facts(8, 8, 0, 1), 0);
        bench = decoded("a1b7$bc1", 0x02, 1, 1);
        dueEntry(bench, 2, facts(8, 8, 16, 0), 2);
        bench = decoded("a4b2$bc1", 0x07, 0xFF, 1);
        dueEntry(bench, 2, facts(8, 6, 8, 0), 1);
        bench = decoded("b2a4$a", 0x0B, 0xFF, 1);
        dueEntry(bench, 2, facts(8, 6, 16, 0), 2);
        // As many bytes as would be none, or fewer, in an int of bits.
        bench = decoded("a32$a", 0x20, 0, 0, 0, 7);
        dueEntry(bench, 1, facts(8, 32, 0, 1), 0);
        bench = decoded("a32$a", 0xFF, 0xFF, 0xFF, 0xFF, 7);
        dueEntry(bench, 1, facts(8, 32, 0, 1), 0);
    }

    private static void groups() {
        CaptureBench bench = decoded("a8#a(b4c4)d8", 2, 0x12, 0x34, 0x56);
        Checks.due("decode(0)", bench.decode(0), 6);
        dueEntry(bench, 3, facts(1, 16, 4, 0), 3);
        dueEntry(bench, 4, facts(2, 20, 4, 0), 4);
        dueEntry(bench, 5, facts(3, 24, 8, 0), 0x56);
        bench = decoded("a8#a(b8)c8", 0, 9);
        Checks.due("no repetition", bench.decode(0), 2);
        dueEntry(bench, 1, facts(2, 8, 8, 0), 9);
        bench = decoded("#*(a8#a(b8))", 2, 8, 9, 0, 1, 7);
        Checks.due("groups in a group", bench.decode(0), 6);
        dueEntry(bench, 3, facts(0, 24, 8, 0), 0);
        dueEntry(bench, 4, facts(0, 32, 8, 0), 1);
        dueEntry(bench, 5, facts(1, 40, 8, 0), 7);
        bench = decoded("#*(a5)b8", 0xFF);
        Checks.due("the last repetition is too short", bench.decode(0), 2);
        dueEntry(bench, 1, facts(0, 5, 0, 1), 0);
        bench = decoded("$*#*(a8)b8", 1, 2);
        Checks.due("no bit is left", bench.decode(0), 2);
        dueEntry(bench, 1, facts(1, 16, 0, 1), 0);
    }

    private static void options() {
        for (int a = 0; a < 5; a++) {
            CaptureBench bench = decoded("a8?a=3(b8)?a<2(c8)d8", a, 1, 2, 3);
            Checks.due("with " + a, bench.decode(0), a == 3 || a < 2 ? 3 : 2);
            Checks.due("the option with " + a, bench.entry(0, 1, 1), a == 3 ? 1 : a < 2 ? 2 : 3);
        }
        CaptureBench bench = decoded("a32?a<999999(b8)c8", 0x80, 0, 0, 0, 1);
        Checks.due("values have no sign", bench.entry(0, 1, 1), 2);
        bench = decoded("a8?a=1(?a=2(b8)?a=1(c8)d8)e8", 1, 2, 3, 4);
        Checks.due("options in an option", bench.decode(0), 4);
        Checks.due("the inner one", bench.entry(0, 1, 1), 2);
        Checks.due("behind the inner one", bench.entry(0, 2, 1), 3);
        Checks.due("behind the outer one", bench.entry(0, 3, 1), 4);
    }

    private static void threeDeep() {
        CaptureBench bench = decoded("a8#a(#a(#a(b8)c8)d8)e8", 2, 1, 2, 3, 4, 5, 6, 7, 8, 9, 10, 11,
                12, 13, 14, 15);
        int[] names = {0, 1, 1, 2, 1, 1, 2, 3, 1, 1, 2, 1, 1, 2, 3, 4};
        Checks.due("groups", bench.decode(0), names.length);
        for (int k = 0; k < names.length; k++) {
            dueEntry(bench, k, facts(names[k], 8 * k, 8, 0), k == 0 ? 2 : k);
        }
        bench = decoded("a8?a=1(?a<2(?a=1(b8)c8)d8)e8", 1, 2, 3, 4, 5);
        Checks.due("options", bench.decode(0), 5);
        bench = decoded("a8?a=1(#a(?a=0(b8)c8)d8)e8", 1, 2, 3, 4, 5);
        Checks.due("groups and options", bench.decode(0), 4);
    }

    private static void valuesAreOfThisRun() {
        CaptureBench bench = decoded("#*(a8?a=1(b8))?b=0(c1)$b", 1, 5, 0, 1, 2, 0);
        // The latest b is 2, for which no byte is left.
        Checks.due("the latest one", bench.decode(0), 7);
        dueEntry(bench, 6, facts(8, 48, 0, 1), 0);
        bench = decoded("a8?a=9(b8)$b?b=0(c8)", 1, 7);
        Checks.due("0 when there was none", bench.decode(0), 3);
        dueEntry(bench, 1, facts(8, 8, 0, 0), 0);
        dueEntry(bench, 2, facts(2, 8, 8, 0), 7);
        // In the second run b was not there, though it was in the first.
        bench = decoded("a8?a=1(b8)$b>a", 1, 1, 77, 2, 88);
        bench.follow(0, 1, 0);
        Checks.due("another run of the same layer", bench.decode(0), 5);
        dueEntry(bench, 4, facts(8, 32, 0, 0), 0);
        bench = decoded("h8?h=1(a8)$a>h", 1, 1, 77, 2, 88);
        bench.follow(0, 1, 0);
        dueEntry(bench, 4, facts(8, 32, 0, 0), 0);
        bench = decoded("a8b8!$*>a", 3, 3);
        Checks.describe(bench, 1, "a8");
        bench.follow(0, 3, 1);
        Checks.due("a field with a wrong sum has its value", bench.decode(0), 4);
        dueEntry(bench, 3, Checks.facts(1, 0, 16, 0, 1), 0);
    }

    private static void chooserMustBeEntered() {
        CaptureBench bench = decoded("a8?a=1(b8)>b", 2, 5);
        Checks.describe(bench, 1, "c8");
        bench.follow(0, 0, 1);
        Checks.due("no such field in this run", bench.decode(0), 1);
        Checks.describe(bench, 0, "a8?a=2(b8)>b");
        Checks.due("no follower by 5", bench.decode(0), 2);
        bench.follow(0, 5, 1);
        Checks.due("a follower by 5", bench.decode(0), 3);
        Checks.describe(bench, 0, "a8?a=2(b8)");
        Checks.due("without >", bench.decode(0), 2);
        Checks.describe(bench, 0, "a8b8=4>b");
        Checks.due("decoding was over before", bench.decode(0), 2);
        Checks.describe(bench, 0, "a8b8!>b");
        Checks.due("a field with a wrong sum was entered", bench.decode(0), 3);
        // In the second run b is not entered, and its value 0 must not choose.
        bench = decoded("a8?a=1(b8)>b", 1, 5, 2, 9);
        Checks.describe(bench, 1, "c8");
        bench.follow(0, 5, 0);
        bench.follow(0, 0, 1);
        Checks.due("entered in another run alone", bench.decode(0), 3);
    }

    private static void limitEndsFields() {
        CaptureBench bench = decoded("a8b8=1c8", 1, 2);
        bench.limit(1);
        Checks.due("limit(1)", bench.decode(0), 1);
        dueEntry(bench, 0, facts(0, 0, 0, 4), 0);
        bench.limit(2);
        Checks.due("limit(2)", bench.decode(0), 2);
        dueEntry(bench, 1, facts(1, 8, 0, 4), 0);
        bench.limit(3);
        dueEntry(bench, 1, facts(1, 8, 8, 2), 2);
        Checks.describe(bench, 0, "a8b8c8");
        Checks.due("the limit goes before too few bits", bench.entry(0, 2, 4), 4);
        dueEntry(bench, 2, facts(2, 16, 0, 4), 0);
        bench.limit(4);
        dueEntry(bench, 2, facts(2, 16, 0, 1), 0);
        Checks.describe(bench, 0, "a8b8");
        bench.limit(3);
        Checks.due("no step comes next", bench.decode(0), 2);
    }

    private static void limitEndsBlocksAndRepetitions() {
        CaptureBench bench = decoded("a8$a", 9, 2);
        bench.limit(2);
        Checks.due("decode(0)", bench.decode(0), 2);
        dueEntry(bench, 1, facts(8, 8, 0, 4), 0);
        bench = decoded("a8#a(b8)c8", 2, 1, 2, 3);
        bench.limit(4);
        Checks.due("decode(0)", bench.decode(0), 3);
        dueEntry(bench, 2, facts(9, 16, 0, 4), 0);
        bench.limit(5);
        dueEntry(bench, 2, facts(1, 16, 0, 4), 0);
        bench.limit(6);
        dueEntry(bench, 3, facts(2, 24, 0, 4), 0);
        bench.limit(7);
        dueEntry(bench, 3, facts(2, 24, 8, 0), 3);
        // Options are no steps, and repetitions that take nothing are.
        bench = decoded("a32#a(?a=0(b8))", 0xFF, 0xFF, 0xFF, 0xFF);
        Checks.due("decode(0)", bench.decode(0), 2);
        dueEntry(bench, 1, facts(9, 32, 0, 4), 0);
        bench = decoded("a8#a(?a=0(b8))c8", 61, 5);
        Checks.due("61 repetitions and c are 64 steps", bench.decode(0), 2);
        dueEntry(bench, 1, facts(2, 8, 8, 0), 5);
        bench = decoded("a8#a(?a=0(b8))c8", 62, 5);
        dueEntry(bench, 1, facts(2, 8, 0, 4), 0);
        bench = decoded("a8#a(?a=0(b8))", 63, 5);
        dueEntry(bench, 1, facts(9, 8, 0, 4), 0);
        bench = decoded("$*".repeat(40), 1);
        Checks.due("forty blocks", bench.decode(0), 40);
    }

    private static void limitEndsLayers() {
        CaptureBench bench = decoded("a8>a", 1, 2);
        Checks.describe(bench, 3, "b8");
        bench.follow(0, 1, 3);
        bench.limit(2);
        Checks.due("decode(0)", bench.decode(0), 2);
        dueEntry(bench, 1, Checks.facts(3, 10, 8, 0, 4), 0);
        bench.limit(3);
        dueEntry(bench, 1, Checks.facts(3, 1, 8, 0, 4), 0);
        bench.limit(4);
        dueEntry(bench, 1, Checks.facts(3, 1, 8, 8, 0), 2);
        bench.limit(2);
        bench.follow(0, 1, 2);
        Checks.due("a layer that is not described cannot begin", bench.decode(0), 1);
        bench = decoded("a1b1c1d1e1f1g1h1>h", new int[40]);
        bench.follow(0, 0, 0);
        Checks.due("entries of many runs", bench.decode(0), 57);
        dueEntry(bench, 55, facts(7, 55, 1, 0), 0);
        dueEntry(bench, 56, facts(0, 56, 0, 4), 0);
        // Of 64 steps only the two that begin layers enter nothing; no text allows more entries.
        bench = decoded("a8" + "$*".repeat(37) + ">a", 5, 1);
        Checks.describe(bench, 1, "$*".repeat(40));
        bench.follow(0, 5, 1);
        Checks.due("the most entries", bench.decode(0), 63);
        dueEntry(bench, 1, facts(8, 8, 8, 0), 1);
        dueEntry(bench, 61, Checks.facts(1, 8, 16, 0, 0), 0);
        dueEntry(bench, 62, Checks.facts(1, 8, 16, 0, 4), 0);
    }

    private static void wrongLimits() {
        CaptureBench bench = decoded("#*(a1)", 1, 2, 3, 4, 5, 6, 7, 8);
        bench.limit(5);
        bench.talks(0, 0, 0, 0);
        Checks.dueIllegalArgument("limit(0)", () -> bench.limit(0));
        Checks.dueIllegalArgument("limit(65)", () -> bench.limit(65));
        Checks.dueIllegalArgument("limit(-1)", () -> bench.limit(-1));
        Checks.due("the limit stays", bench.decode(0), 3);
        Checks.due("the talks stay", bench.talk(0, 2), 1);
        bench.limit(64);
        Checks.due("limit(64)", bench.decode(0), 32);
        bench.limit(1);
        Checks.due("limit(1)", bench.decode(0), 1);
        Checks.due("limit(1) ends the repetition", bench.entry(0, 0, 1), 9);
    }

    private static void wrongEntries() {
        CaptureBench bench = decoded("a8b8", 1, 2);
        Checks.dueOutOfBounds("decode(-1)", () -> bench.decode(-1));
        Checks.dueOutOfBounds("decode(1)", () -> bench.decode(1));
        Checks.dueOutOfBounds("entry(1, 0, 0)", () -> bench.entry(1, 0, 0));
        Checks.dueOutOfBounds("entry(-1, 0, 9)", () -> bench.entry(-1, 0, 9));
        Checks.dueOutOfBounds("entry(0, 2, 0)", () -> bench.entry(0, 2, 0));
        Checks.dueOutOfBounds("entry(0, -1, 0)", () -> bench.entry(0, -1, 0));
        Checks.dueOutOfBounds("entry(0, 2, 5)", () -> bench.entry(0, 2, 5));
        Checks.dueIllegalArgument("entry(0, 1, 5)", () -> bench.entry(0, 1, 5));
        Checks.dueIllegalArgument("entry(0, 1, -1)", () -> bench.entry(0, 1, -1));
        Checks.dueOutOfBounds("value(0, 2)", () -> bench.value(0, 2));
        Checks.dueOutOfBounds("value(0, -1)", () -> bench.value(0, -1));
        Checks.dueOutOfBounds("value(1, 0)", () -> bench.value(1, 0));
        Checks.dueOutOfBounds("value(-1, 0)", () -> bench.value(-1, 0));
        bench.root(0, -1);
        Checks.dueOutOfBounds("value(0, 0) of no entries", () -> bench.value(0, 0));
    }
}
