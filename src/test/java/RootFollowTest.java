/** Promises 5 and 6: root, follow. */
public final class RootFollowTest {
    public static void main(String[] args) {
        rootsAreByLink();
        rootsThatDecodeNothing();
        wrongRoots();
        followersChoose();
        followersAreByLayer();
        layersMayFollowThemselves();
        eightValues();
        removedValuesLeaveTheOthers();
        wrongFollowers();
        Checks.end();
    }

    private static void rootsAreByLink() {
        CaptureBench bench = new CaptureBench();
        Checks.describe(bench, 1, "a8");
        Checks.describe(bench, 3, "b4c4");
        bench.root(0, 1);
        bench.root(1, 3);
        Checks.addFrame(bench, 0, 0, 0x12);
        Checks.addFrame(bench, 1, 1, 0x12);
        Checks.due("decode(0)", bench.decode(0), 1);
        Checks.due("decode(1)", bench.decode(1), 2);
        Checks.due("layer of link 0", bench.entry(0, 0, 0), 1);
        Checks.due("layer of link 1", bench.entry(1, 0, 0), 3);
        bench.root(0, 3);
        Checks.due("decode(0) by another root", bench.decode(0), 2);
    }

    private static void rootsThatDecodeNothing() {
        CaptureBench bench = Checks.benchWith("a8");
        Checks.addFrame(bench, 0, 0, 1);
        bench.root(0, -1);
        Checks.due("no root any more", bench.decode(0), 0);
        bench.root(0, 2);
        Checks.due("a root that is not described", bench.decode(0), 0);
        Checks.describe(bench, 2, "a4b4");
        Checks.due("described afterwards", bench.decode(0), 2);
    }

    private static void wrongRoots() {
        CaptureBench bench = Checks.benchWith("a8");
        Checks.addFrame(bench, 0, 0, 1);
        bench.talks(0, 0, 0, 0);
        Checks.dueIllegalArgument("root(-1, 0)", () -> bench.root(-1, 0));
        Checks.dueIllegalArgument("root(2, 0)", () -> bench.root(2, 0));
        Checks.dueIllegalArgument("root(0, -2)", () -> bench.root(0, -2));
        Checks.dueIllegalArgument("root(0, 4)", () -> bench.root(0, 4));
        Checks.due("the root stays", bench.decode(0), 1);
        Checks.due("the talks stay", bench.talk(0, 0), 1);
    }

    private static void followersChoose() {
        CaptureBench bench = Checks.benchWith("a8>a");
        Checks.describe(bench, 1, "b8");
        Checks.describe(bench, 2, "c4");
        Checks.addFrame(bench, 0, 0, 7, 0x9A);
        Checks.due("nothing follows yet", bench.decode(0), 1);
        bench.follow(0, 7, 1);
        Checks.due("decode(0)", bench.decode(0), 2);
        Checks.dueEntry(bench, 0, 1, Checks.facts(1, 1, 8, 8, 0), 0x9A);
        bench.follow(0, 7, 2);
        Checks.dueEntry(bench, 0, 1, Checks.facts(2, 2, 8, 4, 0), 9);
        bench.follow(0, 8, 1);
        Checks.due("another value changes nothing", bench.decode(0), 2);
        bench.follow(0, 7, 3);
        Checks.due("a follower that is not described", bench.decode(0), 1);
        bench.follow(0, 7, -1);
        Checks.due("none any more", bench.decode(0), 1);
    }

    private static void followersAreByLayer() {
        CaptureBench bench = Checks.benchWith("a8>a");
        Checks.describe(bench, 1, "b8>b");
        Checks.describe(bench, 2, "c8");
        bench.follow(0, 5, 1);
        bench.follow(1, 5, 2);
        Checks.addFrame(bench, 0, 0, 5, 5, 5, 5);
        Checks.due("decode(0)", bench.decode(0), 3);
        for (int k = 0; k < 3; k++) {
            Checks.dueEntry(bench, 0, k, Checks.facts(k, k, 8 * k, 8, 0), 5);
        }
    }

    private static void layersMayFollowThemselves() {
        CaptureBench bench = Checks.benchWith("a32>a");
        bench.follow(0, Integer.MAX_VALUE, 0);
        Checks.addFrame(bench, 0, 0, 0x7F, 255, 255, 255, 255, 255, 255, 255, 9, 9, 9, 9);
        Checks.due("a value beyond an int is not followed", bench.decode(0), 2);
        Checks.due("value(0, 0)", bench.value(0, 0), Integer.MAX_VALUE);
        Checks.due("value(0, 1)", bench.value(0, 1), 0xFFFFFFFFL);
    }

    private static void eightValues() {
        CaptureBench bench = Checks.benchWith("a8>a");
        Checks.describe(bench, 1, "b8");
        for (int value = 0; value < 8; value++) {
            bench.follow(0, value, 1);
        }
        Checks.addFrame(bench, 0, 0, 8, 1);
        Checks.addFrame(bench, 0, 1, 7, 1);
        bench.talks(0, 0, 0, 0);
        Checks.dueIllegalState("a ninth value", () -> bench.follow(0, 8, 1));
        Checks.dueIllegalArgument("a ninth value, wrong", () -> bench.follow(0, 8, 4));
        Checks.due("the talks stay", bench.talk(0, 0), 8);
        Checks.due("the ninth is not followed", bench.decode(0), 1);
        bench.follow(0, 8, -1);
        bench.follow(0, 7, 0);
        bench.follow(0, 7, 1);
        bench.follow(1, 8, 1);
        bench.follow(0, 3, -1);
        bench.follow(0, 3, -1);
        bench.follow(0, 8, 1);
        Checks.due("the ninth in place of another", bench.decode(0), 2);
        Checks.due("the eighth stays", bench.decode(1), 2);
        Checks.dueIllegalState("the other one again", () -> bench.follow(0, 3, 1));
        for (int value = 0; value < 9; value++) {
            bench.drop(0);
            Checks.addFrame(bench, 0, 9, value, 1);
            Checks.due("followed by " + value, bench.decode(1), value == 3 ? 1 : 2);
        }
    }

    private static void removedValuesLeaveTheOthers() {
        CaptureBench bench = Checks.benchWith("a8>a");
        for (int layer = 1; layer < 4; layer++) {
            Checks.describe(bench, layer, "b8");
            bench.follow(0, 10 * layer, layer);
            Checks.addFrame(bench, 0, layer, 10 * layer, 1);
        }
        bench.follow(0, 10, -1);
        Checks.due("the removed one", bench.decode(0), 1);
        Checks.due("the second one", bench.entry(1, 1, 0), 2);
        Checks.due("the third one", bench.entry(2, 1, 0), 3);
        bench.follow(0, 30, -1);
        Checks.due("the second one stays", bench.entry(1, 1, 0), 2);
        Checks.due("the third one is removed", bench.decode(2), 1);
    }

    private static void wrongFollowers() {
        CaptureBench bench = new CaptureBench();
        Checks.dueIllegalArgument("follow(-1, 0, 0)", () -> bench.follow(-1, 0, 0));
        Checks.dueIllegalArgument("follow(4, 0, 0)", () -> bench.follow(4, 0, 0));
        Checks.dueIllegalArgument("follow(0, -1, 0)", () -> bench.follow(0, -1, 0));
        Checks.dueIllegalArgument("follow(0, -1, -1)", () -> bench.follow(0, -1, -1));
        Checks.dueIllegalArgument("follow(0, 0, -2)", () -> bench.follow(0, 0, -2));
        Checks.dueIllegalArgument("follow(0, 0, 4)", () -> bench.follow(0, 0, 4));
    }
}
