/** Promises 5 to 7: of, path, over. */
final class PathsTest {
    private static final Check CHECK = new Check();

    public static void main(String[] args) {
        ofTells();
        ofTellsTheRing();
        ofAlone();
        ofRefuses();
        pathTellsTheRow();
        pathIsTheFirstOfTheShortest();
        pathKeepsToNodesThatAreUp();
        pathRefuses();
        overTells();
        overRefuses();
        partOfTwo();
        partOfEight();
        partOfTheLastNode();
        partEndsAtNodesThatAreDown();
        ringOfTheOutermostNames();
        ofTellsTheMost();
        overOtherParts();
        pathFollowsEachChange();
        CHECK.end();
    }

    private static void row(String what, MeshNames x, int node, int... want) {
        CHECK.due(what + ": path(" + node + ", -1)", x.path(node, -1), want.length);
        for (int i = 0; i < want.length; i++) {
            CHECK.due(what + ": path(" + node + ", " + i + ")", x.path(node, i), want[i]);
        }
        CHECK.due(what + ": behind its last", x.path(node, want.length), MeshNames.NONE);
        CHECK.due(what + ": far behind", x.path(node, Integer.MAX_VALUE), MeshNames.NONE);
    }

    private static void ofTells() {
        MeshNames x = Meshes.line();
        CHECK.due("5 NAME", x.of(4, 0), 140);
        CHECK.due("5 PART", x.of(4, 1), 63);
        CHECK.due("5 LINKS", x.of(4, 4), 2);
        CHECK.due("5 LINKS of an end", x.of(5, 4), 1);
        int[] over = {2, 5, 4, 4, 5, 2};
        int[] known = {2, 5, 5, 5, 5, 2};
        for (int node = 0; node < 6; node++) {
            CHECK.due("5 PATHS over " + node, x.of(node, 5), over[node]);
            CHECK.due("5 NAMES known at " + node, x.of(node, 6), known[node]);
        }
        x.link(4, 7, 1);
        CHECK.due("5 a LINK to a NODE that is down does not count", x.of(4, 4), 2);
        x.up(7, 0);
        CHECK.due("5 a LINK to a NODE that is UP counts", x.of(4, 4), 3);
    }

    private static void ofTellsTheRing() {
        MeshNames x = Meshes.chain(Meshes.named(200, 0, 255, 7, 90, 91), 0, 1, 2, 3);
        int[] next = {2, 3, 1, 0};
        int[] before = {3, 2, 0, 1};
        for (int node = 0; node < 4; node++) {
            CHECK.due("5 PART of " + node, x.of(node, 1), 15);
            CHECK.due("5 NEXT of " + node, x.of(node, 2), next[node]);
            CHECK.due("5 BEFORE of " + node, x.of(node, 3), before[node]);
        }
        x.link(4, 5, 1);
        CHECK.due("5 another PART has a ring of its own", x.of(4, 2), 5);
        CHECK.due("5 NEXT of the last is the first", x.of(5, 2), 4);
        CHECK.due("5 BEFORE", x.of(5, 3), 4);
        x.link(0, 4, 1);
        CHECK.due("5 parts are one ring again: NEXT", x.of(5, 2), 0);
        CHECK.due("5 parts are one ring again: BEFORE", x.of(4, 3), 3);
    }

    private static void ofAlone() {
        MeshNames x = Meshes.named(-1, -1, -1, 77);
        CHECK.due("5 alone: PART", x.of(3, 1), 8);
        CHECK.due("5 alone: NEXT", x.of(3, 2), MeshNames.NONE);
        CHECK.due("5 alone: BEFORE", x.of(3, 3), MeshNames.NONE);
        CHECK.due("5 alone: LINKS", x.of(3, 4), 0);
        CHECK.due("5 alone: PATHS", x.of(3, 5), 0);
        CHECK.due("5 alone: NAMES", x.of(3, 6), 0);
    }

    private static void ofRefuses() {
        MeshNames x = Meshes.named(5);
        CHECK.due("5 of(8, 9)", x.of(8, 9), MeshNames.UNKNOWN);
        CHECK.due("5 of(-1, 0)", x.of(-1, 0), MeshNames.UNKNOWN);
        CHECK.due("5 of(0, 7)", x.of(0, 7), MeshNames.OUTSIDE);
        CHECK.due("5 of(0, -1)", x.of(0, -1), MeshNames.OUTSIDE);
        CHECK.due("5 of(1, 7): OUTSIDE goes ahead of STATE", x.of(1, 7), MeshNames.OUTSIDE);
        for (int what = 0; what <= 6; what++) {
            CHECK.due("5 of(1, " + what + ")", x.of(1, what), MeshNames.STATE);
        }
    }

    private static void pathTellsTheRow() {
        MeshNames x = Meshes.line();
        row("6 line", x, 0, 0, 3, 1);
        row("6 line", x, 2, 2, 4, 1, 3);
        row("6 line", x, 5, 5, 2, 4, 1, 3, 0);
        MeshNames all = Meshes.chain(Meshes.named(0, 1, 2, 3, 4, 5, 6, 7), 0, 1, 2, 3, 4, 5, 6, 7);
        row("6 the longest", all, 7, 7, 6, 5, 4, 3, 2, 1, 0);
        row("6 the shortest", all, 6, 6, 7);
    }

    private static void pathIsTheFirstOfTheShortest() {
        // from 0 to 7 in three steps by 1-6, 2-5, 2-6; in four by 1-3-4
        MeshNames x = Meshes.named(0, 9, 8, 7, 6, 5, 4, 1);
        Meshes.chain(x, 0, 1, 6, 7);
        Meshes.chain(x, 0, 2, 5, 7);
        Meshes.chain(x, 2, 6);
        Meshes.chain(x, 1, 3, 4, 7);
        row("6 first differing place", x, 0, 0, 1, 6, 7);
        x.link(1, 6, 0);
        row("6 later differing place", x, 0, 0, 2, 5, 7);
        x.link(0, 7, 1);
        row("6 fewest NODES", x, 0, 0, 7);
        // the row back is found from its own first NODE on
        MeshNames back = Meshes.named(0, 100, 110, 120, 130, 50);
        Meshes.chain(back, 0, 1, 4, 5);
        Meshes.chain(back, 0, 2, 3, 5);
        row("6 there", back, 0, 0, 1, 4, 5);
        MeshNames turned = Meshes.named(50, 100, 110, 120, 130, 0);
        Meshes.chain(turned, 0, 1, 4, 5);
        Meshes.chain(turned, 0, 2, 3, 5);
        row("6 and back", turned, 5, 5, 3, 2, 0);
    }

    private static void pathKeepsToNodesThatAreUp() {
        MeshNames x = Meshes.chain(Meshes.named(0, -1, 10, 20, 30), 0, 1, 2);
        Meshes.chain(x, 0, 3, 4, 2);
        row("6 around a NODE that is down", x, 0, 0, 3, 4, 2);
        x.up(1, 40);
        row("6 over it when it is UP", x, 0, 0, 1, 2);
    }

    private static void pathRefuses() {
        MeshNames x = Meshes.named(5, 6);
        CHECK.due("6 path(8, -2)", x.path(8, -2), MeshNames.UNKNOWN);
        CHECK.due("6 path(-1, 0)", x.path(-1, 0), MeshNames.UNKNOWN);
        CHECK.due("6 path(2, -2): OUTSIDE goes ahead of STATE", x.path(2, -2), MeshNames.OUTSIDE);
        CHECK.due("6 path(0, MIN)", x.path(0, Integer.MIN_VALUE), MeshNames.OUTSIDE);
        CHECK.due("6 path(2, 0)", x.path(2, 0), MeshNames.STATE);
        CHECK.due("6 path(0, 0)", x.path(0, 0), MeshNames.NO);
        CHECK.due("6 path(0, -1)", x.path(0, -1), MeshNames.NO);
        CHECK.due("6 path(0, 99): NO goes ahead of NONE", x.path(0, 99), MeshNames.NO);
    }

    private static void overTells() {
        MeshNames x = Meshes.line();
        int[] over = {1, 1, 0, 1, 0, 0, 0, 0};
        for (int other = 0; other < 8; other++) {
            CHECK.due("7 over(0, " + other + ")", x.over(0, other), over[other]);
        }
        CHECK.due("7 over(5, 1)", x.over(5, 1), 1);
        CHECK.due("7 over(2, 3)", x.over(2, 3), 1);
        CHECK.due("7 over(2, 0)", x.over(2, 0), 0);
    }

    private static void overRefuses() {
        MeshNames x = Meshes.named(5, 6);
        CHECK.due("7 over(8, 0)", x.over(8, 0), MeshNames.UNKNOWN);
        CHECK.due("7 over(0, 8)", x.over(0, 8), MeshNames.UNKNOWN);
        CHECK.due("7 over(2, -1): UNKNOWN goes ahead of STATE", x.over(2, -1), MeshNames.UNKNOWN);
        CHECK.due("7 over(2, 0)", x.over(2, 0), MeshNames.STATE);
        CHECK.due("7 over(0, 0)", x.over(0, 0), MeshNames.NO);
        CHECK.due("7 over(0, 2)", x.over(0, 2), MeshNames.NO);
    }

    private static void partOfTwo() {
        MeshNames x = Meshes.chain(Meshes.named(255, -1, -1, -1, -1, -1, -1, 0), 0, 7);
        int[] ofFirst = {255, 129, 7, 7, 1, 2, 1};
        int[] ofLast = {0, 129, 0, 0, 1, 2, 1};
        for (int what = 0; what <= 6; what++) {
            CHECK.due("5 two: of(0, " + what + ")", x.of(0, what), ofFirst[what]);
            CHECK.due("5 two: of(7, " + what + ")", x.of(7, what), ofLast[what]);
        }
        row("6 two", x, 0, 0, 7);
        row("6 two", x, 7, 7, 0);
        CHECK.due("7 two: over(0, 7)", x.over(0, 7), 1);
        CHECK.due("7 two: over(7, 7)", x.over(7, 7), 1);
    }

    private static void partOfEight() {
        MeshNames x = Meshes.whole();
        for (int node = 0; node < 8; node++) {
            CHECK.due("5 all are one PART", x.of(node, 1), 255);
            CHECK.due("5 NEXT", x.of(node, 2), (node + 1) % 8);
            CHECK.due("5 BEFORE", x.of(node, 3), (node + 7) % 8);
            CHECK.due("5 all LINKS count", x.of(node, 4), 7);
            CHECK.due("5 two PATHS", x.of(node, 5), 2);
            CHECK.due("5 two NAMES", x.of(node, 6), 2);
            row("6 one step", x, node, node, (node + 1) % 8);
        }
    }

    private static void partOfTheLastNode() {
        MeshNames x = Meshes.named(-1, -1, -1, -1, -1, -1, 1, 2);
        CHECK.due("5 7 alone", x.of(7, 1), 128);
        x.link(6, 7, 1);
        CHECK.due("5 6 and 7", x.of(7, 1), 192);
        x.link(6, 7, 0);
        CHECK.due("5 6 alone again", x.of(6, 1), 64);
    }

    private static void partEndsAtNodesThatAreDown() {
        MeshNames x = Meshes.chain(Meshes.named(10, 20, 30), 0, 1, 2);
        x.down(1);
        CHECK.due("5 not by way of a NODE that is down", x.of(0, 1), 1);
        CHECK.due("5 NEXT", x.of(0, 2), MeshNames.NONE);
        CHECK.due("5 BEFORE", x.of(2, 3), MeshNames.NONE);
        CHECK.due("5 no LINK counts", x.of(2, 4), 0);
        CHECK.due("6 no PATH", x.path(2, -1), MeshNames.NO);
    }

    private static void ringOfTheOutermostNames() {
        MeshNames x = Meshes.chain(Meshes.named(1, 255, 0, 254), 0, 1, 2, 3);
        int[] next = {3, 2, 0, 1};
        for (int node = 0; node < 4; node++) {
            CHECK.due("5 NEXT of " + node, x.of(node, 2), next[node]);
            CHECK.due("5 BEFORE of " + next[node], x.of(next[node], 3), node);
        }
        x.down(1);
        x.link(0, 2, 1);
        CHECK.due("5 NEXT of the greatest is the least of all", x.of(3, 2), 2);
        CHECK.due("5 BEFORE of the least is the greatest", x.of(2, 3), 3);
    }

    private static void ofTellsTheMost() {
        MeshNames x = Meshes.crossed();
        int[] over = {2, 4, 6, 8, 8, 6, 4, 2};
        int[] known = {2, 4, 6, 7, 7, 6, 4, 2};
        for (int node = 0; node < 8; node++) {
            CHECK.due("5 PATHS over " + node, x.of(node, 5), over[node]);
            CHECK.due("5 NAMES known at " + node, x.of(node, 6), known[node]);
        }
        row("6 all NODES", x, 7, 7, 6, 5, 4, 3, 2, 1, 0);
        for (int node = 0; node < 8; node++) {
            CHECK.due("7 over(7, " + node + ")", x.over(7, node), 1);
            CHECK.due("7 over(" + node + ", 3)", x.over(node, 3), 1);
        }
    }

    private static void overOtherParts() {
        MeshNames x = Meshes.chain(Meshes.named(1, 2, 3, 4, 5), 0, 1);
        Meshes.chain(x, 2, 3, 5);
        CHECK.due("7 another PART", x.over(0, 2), 0);
        CHECK.due("7 one alone", x.over(0, 4), 0);
        CHECK.due("7 one that is down, with a LINK", x.over(2, 5), 0);
        CHECK.due("7 its end", x.over(2, 3), 1);
        CHECK.due("7 itself", x.over(3, 3), 1);
    }

    private static void pathFollowsEachChange() {
        MeshNames x = Meshes.chain(Meshes.named(0, 50, 100), 0, 1, 2);
        row("6 ahead", x, 2, 2, 1, 0);
        x.link(0, 2, 1);
        row("6 a LINK more", x, 2, 2, 0);
        x.link(2, 0, 0);
        row("6 a LINK less", x, 2, 2, 1, 0);
        x.up(3, 75);
        x.link(2, 3, 1);
        row("6 a NODE more", x, 1, 1, 2, 3);
        row("6 a NODE more", x, 3, 3, 2);
        x.down(3);
        row("6 a NODE less", x, 1, 1, 2);
        CHECK.due("6 and its PATH", x.path(3, -1), MeshNames.STATE);
    }
}
